/-! the reference: send, carry -/
section REL
variable {g : am_G} {A : Nat → Nat} {r : fr_S} {ns room idle : Nat} {s : fc_S} {own : Int32 → Int32 × Int32} {W : Nat}
theorem rf_send (H : fr_rel ns room idle s r) (J : fz_J own W ns room s) (U : fc_iU ns s) (f t nr : Int32) : gm_M (fr_P A) fr_X g y_M_send "(III)Z" 4 108 [.ref (A 44), .int f, .int t, .int nr] (fun v r' => v = some (.int (am_b (fc_send s f t nr).1)) ∧ fr_rel ns room idle (fc_send s f t nr).2 r') r := by
  have D := J.1
  have n5 := D.1.2.1
  refine gm_Mof (L0 := [some (.ref (A 44)), some (.int f), some (.int t), some (.int nr)]) pl_M_send (am_k1 rfl (am_k1 rfl (am_k1 rfl (am_k1 rfl am_k0)))) (Nat.le_of_ble_eq_true rfl) rfl ?_
  refine gm_aload_n d_M_send_0 rfl (by first | exact am_rvR _ | exact am_rvN | assumption) ?_
  refine gm_iload_n d_M_send_1 rfl ?_
  refine gm_cV (b := A 44) d_M_send_2 v_M_177 (vs := [.int f]) (st := []) rfl rfl (by decide) (Nat.le_of_ble_eq_true rfl) (fr_at _) (rf_isHost H.2.1.1 f) ?_
  rintro v r1 ⟨rfl, hr1⟩
  subst r1
  first | refine gm_if_eqB (tgt := 21) d_M_send_5 (by decide) (fun q5 => ?_) (fun q5 => ?_) | refine gm_if_eqN (tgt := 21) d_M_send_5 (by decide) (by omega) (fun q5 => ?_) (fun q5 => ?_) | refine gm_if_eq (tgt := 21) d_M_send_5 (by decide) (fun q5 => ?_) (fun q5 => ?_)
  · refine gm_iconst (v := nI 0) d_M_send_21 (by decide) ?_
    refine gm_iret d_M_send_22 rfl (by first | rfl | exact am_b_nar _) ?_
    first | (refine ⟨?_, ?_⟩; (focus (rw [fc_send_b1 (show fc_hs s f = false from q5)]; try rfl)); (focus (rw [fc_send_b1 (show fc_hs s f = false from q5)]; exact H))) | (rw [fr_host_eq] at q5; (refine ⟨?_, ?_⟩; (focus (rw [fc_send_b2 q5 (show fc_hs s t = false from q13)]; try rfl)); (focus (rw [fc_send_b2 q5 (show fc_hs s t = false from q13)]; exact H)))) | (subst q18; (refine ⟨?_, ?_⟩; (focus (rw [fc_send_b3 q5]; try rfl)); (focus (rw [fc_send_b3 q5]; exact H)))) | (refine ⟨?_, ?_⟩; (focus (rw [fc_send_ok q5 q13 (show f' < 1000 by omega) (show t' < 1000 by omega) (show i < 1000 by omega) q18 g1 g2]; try rfl)); (focus (rw [fc_send_ok q5 q13 (show f' < 1000 by omega) (show t' < 1000 by omega) (show i < 1000 by omega) q18 g1 g2]; exact h1)))
  · refine gm_aload_n d_M_send_8 rfl (by first | exact am_rvR _ | exact am_rvN | assumption) ?_
    refine gm_iload_n d_M_send_9 rfl ?_
    refine gm_cV (b := A 44) d_M_send_10 v_M_177 (vs := [.int t]) (st := []) rfl rfl (by decide) (Nat.le_of_ble_eq_true rfl) (fr_at _) (rf_isHost H.2.1.1 t) ?_
    rintro v r1 ⟨rfl, hr1⟩
    subst r1
    first | refine gm_if_eqB (tgt := 21) d_M_send_13 (by decide) (fun q13 => ?_) (fun q13 => ?_) | refine gm_if_eqN (tgt := 21) d_M_send_13 (by decide) (by omega) (fun q13 => ?_) (fun q13 => ?_) | refine gm_if_eq (tgt := 21) d_M_send_13 (by decide) (fun q13 => ?_) (fun q13 => ?_)
    · refine gm_iconst (v := nI 0) d_M_send_21 (by decide) ?_
      refine gm_iret d_M_send_22 rfl (by first | rfl | exact am_b_nar _) ?_
      first | (refine ⟨?_, ?_⟩; (focus (rw [fc_send_b1 (show fc_hs s f = false from q5)]; try rfl)); (focus (rw [fc_send_b1 (show fc_hs s f = false from q5)]; exact H))) | (rw [fr_host_eq] at q5; (refine ⟨?_, ?_⟩; (focus (rw [fc_send_b2 q5 (show fc_hs s t = false from q13)]; try rfl)); (focus (rw [fc_send_b2 q5 (show fc_hs s t = false from q13)]; exact H)))) | (subst q18; (refine ⟨?_, ?_⟩; (focus (rw [fc_send_b3 q5]; try rfl)); (focus (rw [fc_send_b3 q5]; exact H)))) | (refine ⟨?_, ?_⟩; (focus (rw [fc_send_ok q5 q13 (show f' < 1000 by omega) (show t' < 1000 by omega) (show i < 1000 by omega) q18 g1 g2]; try rfl)); (focus (rw [fc_send_ok q5 q13 (show f' < 1000 by omega) (show t' < 1000 by omega) (show i < 1000 by omega) q18 g1 g2]; exact h1)))
    · rw [fr_host_eq] at q5 q13
      obtain ⟨f', hf, rfl⟩ := fc_hs_nat D.2.1.2.1 q5
      obtain ⟨t', ht, rfl⟩ := fc_hs_nat D.2.1.2.1 q13
      have h6 := D.2.1.2.1
      obtain ⟨i, p, hi, hp, h8, g1, g2⟩ := H.port D hf
      refine gm_iload_n d_M_send_16 rfl ?_
      refine gm_iload_n d_M_send_17 rfl ?_
      first | refine gm_icmp_neN (tgt := 23) d_M_send_18 (by decide) (by omega) (by omega) (fun q18 => ?_) (fun q18 => ?_) | refine gm_icmp_ne (tgt := 23) d_M_send_18 (by decide) (fun q18 => ?_) (fun q18 => ?_)
      · refine gm_aload_n d_M_send_23 rfl (by first | exact am_rvR _ | exact am_rvN | assumption) ?_
        refine gm_aload_n d_M_send_24 rfl (by first | exact am_rvR _ | exact am_rvN | assumption) ?_
        refine fr_gA 8 d_M_send_25 f_M_20 (by decide) (by decide) ?_
        refine gm_iload_n d_M_send_28 rfl ?_
        refine fr_aldv d_M_send_29 (by decide) rfl (show _ < 6 by omega) (by first | assumption | (simp only [fr_up_at, fr_up_s, fr_sc_at, fr_sc_a, Nat.reduceEqDiff, false_and, if_false, ite_false, reduceCtorEq]; first | assumption | rfl) | rfl) ?_
        refine gm_iconst (v := nI 4) d_M_send_30 (by decide) ?_
        first | refine gm_idivN d_M_send_31 (by omega) (by omega) (by omega) ?_ | refine gm_idiv d_M_send_31 (by decide) ?_
        rw [show (4 * i + p) / 4 = i by omega]
        refine gm_aload_n d_M_send_32 rfl (by first | exact am_rvR _ | exact am_rvN | assumption) ?_
        refine fr_gA 8 d_M_send_33 f_M_20 (by decide) (by decide) ?_
        refine gm_iload_n d_M_send_36 rfl ?_
        refine fr_aldv d_M_send_37 (by decide) rfl (show _ < 6 by omega) (by first | assumption | (simp only [fr_up_at, fr_up_s, fr_sc_at, fr_sc_a, Nat.reduceEqDiff, false_and, if_false, ite_false, reduceCtorEq]; first | assumption | rfl) | rfl) ?_
        refine gm_iconst (v := nI 4) d_M_send_38 (by decide) ?_
        first | refine gm_iremN d_M_send_39 (by omega) (by omega) (by omega) ?_ | refine gm_irem d_M_send_39 (by decide) ?_
        rw [show (4 * i + p) % 4 = p by omega]
        refine gm_iload_n d_M_send_40 rfl ?_
        refine gm_iload_n d_M_send_41 rfl ?_
        refine gm_iload_n d_M_send_42 rfl ?_
        refine gm_cV (b := A 44) d_M_send_43 v_M_180 (vs := [.int (nI i), .int (nI p), (.int (nI f')), (.int (nI t')), .int nr]) (st := []) rfl rfl (by decide) (Nat.le_of_ble_eq_true rfl) (fr_at _) (rf_comesIn H J U hi (by omega) (by omega) (by omega) nr) ?_
        rintro v r1 ⟨rfl, h1⟩
        refine gm_iconst (v := nI 1) d_M_send_46 (by decide) ?_
        refine gm_iret d_M_send_47 rfl (by first | rfl | exact am_b_nar _) ?_
        first | (refine ⟨?_, ?_⟩; (focus (rw [fc_send_b1 (show fc_hs s f = false from q5)]; try rfl)); (focus (rw [fc_send_b1 (show fc_hs s f = false from q5)]; exact H))) | (rw [fr_host_eq] at q5; (refine ⟨?_, ?_⟩; (focus (rw [fc_send_b2 q5 (show fc_hs s t = false from q13)]; try rfl)); (focus (rw [fc_send_b2 q5 (show fc_hs s t = false from q13)]; exact H)))) | (subst q18; (refine ⟨?_, ?_⟩; (focus (rw [fc_send_b3 q5]; try rfl)); (focus (rw [fc_send_b3 q5]; exact H)))) | (refine ⟨?_, ?_⟩; (focus (rw [fc_send_ok q5 q13 (show f' < 1000 by omega) (show t' < 1000 by omega) (show i < 1000 by omega) q18 g1 g2]; try rfl)); (focus (rw [fc_send_ok q5 q13 (show f' < 1000 by omega) (show t' < 1000 by omega) (show i < 1000 by omega) q18 g1 g2]; exact h1)))
      · refine gm_iconst (v := nI 0) d_M_send_21 (by decide) ?_
        refine gm_iret d_M_send_22 rfl (by first | rfl | exact am_b_nar _) ?_
        first | (refine ⟨?_, ?_⟩; (focus (rw [fc_send_b1 (show fc_hs s f = false from q5)]; try rfl)); (focus (rw [fc_send_b1 (show fc_hs s f = false from q5)]; exact H))) | (rw [fr_host_eq] at q5; (refine ⟨?_, ?_⟩; (focus (rw [fc_send_b2 q5 (show fc_hs s t = false from q13)]; try rfl)); (focus (rw [fc_send_b2 q5 (show fc_hs s t = false from q13)]; exact H)))) | (subst q18; (refine ⟨?_, ?_⟩; (focus (rw [fc_send_b3 q5]; try rfl)); (focus (rw [fc_send_b3 q5]; exact H)))) | (refine ⟨?_, ?_⟩; (focus (rw [fc_send_ok q5 q13 (show f' < 1000 by omega) (show t' < 1000 by omega) (show i < 1000 by omega) q18 g1 g2]; try rfl)); (focus (rw [fc_send_ok q5 q13 (show f' < 1000 by omega) (show t' < 1000 by omega) (show i < 1000 by omega) q18 g1 g2]; exact h1)))
theorem rf_carry (H : fr_rel ns room idle s r) (J : fz_J own W ns room s) (U : fc_iU ns s) (x p : Int32) : gm_M (fr_P A) fr_X g y_M_carry "(II)Z" 4 108 [.ref (A 44), .int x, .int p] (fun v r' => v = some (.int (am_b (fc_carry ns s x p).1)) ∧ fr_rel ns room idle (fc_carry ns s x p).2 r') r := by
  have D := J.1
  have n5 := D.1.2.1
  refine gm_Mof (L0 := [some (.ref (A 44)), some (.int x), some (.int p), none, none, none, none, none, none]) pl_M_carry (am_k1 rfl (am_k1 rfl (am_k1 rfl am_k0))) (Nat.le_of_ble_eq_true rfl) rfl ?_
  refine gm_aload_n d_M_carry_0 rfl (by first | exact am_rvR _ | exact am_rvN | assumption) ?_
  refine gm_iload_n d_M_carry_1 rfl ?_
  refine gm_iload_n d_M_carry_2 rfl ?_
  refine gm_cV (b := A 44) d_M_carry_3 v_M_140 (vs := [.int x, .int p]) (st := []) rfl rfl (by decide) (Nat.le_of_ble_eq_true rfl) (fr_at _) (rf_isPort H.1.1 x p) ?_
  rintro v r1 ⟨rfl, hr1⟩
  subst r1
  first | refine gm_if_eqB (tgt := 17) d_M_carry_6 (by decide) (fun q6 => ?_) (fun q6 => ?_) | refine gm_if_eqN (tgt := 17) d_M_carry_6 (by decide) (by omega) (fun q6 => ?_) (fun q6 => ?_) | refine gm_if_eq (tgt := 17) d_M_carry_6 (by decide) (fun q6 => ?_) (fun q6 => ?_)
  · refine gm_iconst (v := (-1)) d_M_carry_17 (by decide) ?_
    refine gm_istore_n (L1 := [_, _, _, _, _, _, _, _, _]) d_M_carry_18 (by decide) rfl ?_
    refine gm_iload_n d_M_carry_19 rfl ?_
    refine gm_if_lt (tgt := 42) d_M_carry_20 (by decide) (fun _ => ?_) (fun q => absurd (by decide) q)
    refine gm_iconst (v := nI 0) d_M_carry_42 (by decide) ?_
    refine gm_iret d_M_carry_43 rfl (by first | rfl | exact am_b_nar _) ?_
    first | (refine ⟨?_, ?_⟩; (focus (rw [fc_carry_b1 q6]; try rfl)); (focus (rw [fc_carry_b1 q6]; exact H)))
  · obtain ⟨i, p', hi, hp, rfl, rfl⟩ := fc_pt_nat n5 q6
    obtain ⟨e, he⟩ : ∃ e, e = 4 * i + p' := ⟨_, rfl⟩
    have he4 : e < 4 * ns := by omega
    obtain ⟨u, hu2, h4, hu0, hu2i, hu1, hu2m, hun⟩ := fr_use H D he4
    have h12 : r.2 12 e = nI (s (200 + e)).length := (H.2.2.2.1 e he4).1
    have w6 := D.w6 e he4
    refine gm_iconst (v := nI 4) d_M_carry_9 (by decide) ?_
    refine gm_iload_n d_M_carry_10 rfl ?_
    first | refine gm_imulN d_M_carry_11 ?_ | refine gm_imul d_M_carry_11 ?_
    refine gm_iload_n d_M_carry_12 rfl ?_
    first | refine gm_iaddN d_M_carry_13 ?_ | refine gm_iadd d_M_carry_13 ?_
    rw [← he]
    refine gm_goto (tgt := 18) d_M_carry_14 (by decide) ?_
    refine gm_istore_n (L1 := [_, _, _, _, _, _, _, _, _]) d_M_carry_18 (by decide) rfl ?_
    refine gm_iload_n d_M_carry_19 rfl ?_
    refine gm_if_ltN (tgt := 42) d_M_carry_20 (by decide) (by omega) (fun q => absurd q (by omega)) (fun _ => ?_)
    refine gm_aload_n d_M_carry_23 rfl (by first | exact am_rvR _ | exact am_rvN | assumption) ?_
    refine fr_gA 4 d_M_carry_24 f_M_7 (by decide) (by decide) ?_
    refine gm_iload_n d_M_carry_27 rfl ?_
    refine fr_aldv d_M_carry_28 (by decide) rfl (show _ < 20 by omega) (by first | assumption | (simp only [fr_up_at, fr_up_s, fr_sc_at, fr_sc_a, Nat.reduceEqDiff, false_and, if_false, ite_false, reduceCtorEq]; first | assumption | rfl) | rfl) ?_
    refine gm_iconst (v := nI 2) d_M_carry_29 (by decide) ?_
    first | refine gm_icmp_neN (tgt := 42) d_M_carry_30 (by decide) (by omega) (by omega) (fun q30 => ?_) (fun q30 => ?_) | refine gm_icmp_ne (tgt := 42) d_M_carry_30 (by decide) (fun q30 => ?_) (fun q30 => ?_)
    · refine gm_iconst (v := nI 0) d_M_carry_42 (by decide) ?_
      refine gm_iret d_M_carry_43 rfl (by first | rfl | exact am_b_nar _) ?_
      first | (refine ⟨?_, ?_⟩; (focus (rw [fc_carry_eq n5 hi hp q6 he, if_neg (show ¬ (fc_get s (100 + e) 0 1 ≠ -1 ∧ (s (200 + e)).length ≠ 0) from fun z => absurd (hu2i.mpr z.1) q30)]; try rfl)); (focus (rw [fc_carry_eq n5 hi hp q6 he, if_neg (show ¬ (fc_get s (100 + e) 0 1 ≠ -1 ∧ (s (200 + e)).length ≠ 0) from fun z => absurd (hu2i.mpr z.1) q30)]; exact H))) | (refine ⟨?_, ?_⟩; (focus (rw [fc_carry_eq n5 hi hp q6 he, if_neg (show ¬ (fc_get s (100 + e) 0 1 ≠ -1 ∧ (s (200 + e)).length ≠ 0) from fun z => z.2 q39)]; try rfl)); (focus (rw [fc_carry_eq n5 hi hp q6 he, if_neg (show ¬ (fc_get s (100 + e) 0 1 ≠ -1 ∧ (s (200 + e)).length ≠ 0) from fun z => z.2 q39)]; exact H)))
    · refine gm_aload_n d_M_carry_33 rfl (by first | exact am_rvR _ | exact am_rvN | assumption) ?_
      refine fr_gA 12 d_M_carry_34 f_M_32 (by decide) (by decide) ?_
      refine gm_iload_n d_M_carry_37 rfl ?_
      refine fr_aldv d_M_carry_38 (by decide) rfl (show _ < 20 by omega) (by first | assumption | (simp only [fr_up_at, fr_up_s, fr_sc_at, fr_sc_a, Nat.reduceEqDiff, false_and, if_false, ite_false, reduceCtorEq]; first | assumption | rfl) | rfl) ?_
      first | refine gm_if_neB (tgt := 44) d_M_carry_39 (by decide) (fun q39 => ?_) (fun q39 => ?_) | refine gm_if_neN (tgt := 44) d_M_carry_39 (by decide) (by omega) (fun q39 => ?_) (fun q39 => ?_) | refine gm_if_ne (tgt := 44) d_M_carry_39 (by decide) (fun q39 => ?_) (fun q39 => ?_)
      · obtain ⟨x0, x1, x2, hfrm, g0, g1, g2, h130, h131, h132⟩ := fr_wire0 H D he4 q39
        obtain ⟨mt, hm, hgm, h5, hmt⟩ := hu2m q30
        obtain ⟨n, hn⟩ : ∃ n, n = (s (200 + e)).length := ⟨_, rfl⟩
        rw [← hn] at h12 q39 w6
        have J1 : fz_J own W ns room (fc_del s (200 + e) 0) := J.same (J.1.delW 0 he4) (fc_del_ne _ (by omega)) (fc_del_ne _ (by omega)) (fun j hj => ⟨fc_del_ne _ (by omega), fc_del_ne _ (by omega), fc_del_ne _ (by omega)⟩)
        have H1 : fr_rel ns room idle (fc_del s (200 + e) 0) (fr_wdel r e n) := by rw [hn]; exact H.wdel D he4
        have U1 : fc_iU ns (fc_del s (200 + e) 0) := U.same n5 (fc_sP.up _ (by omega))
        have h5' : (fr_wdel r e n).2 5 e = nI mt := by unfold fr_wdel; rw [fr_sh_not (by decide), fr_up_ne (by decide)]; exact h5
        have hC : fc_get s (100 + e) 0 1 ≠ -1 ∧ (s (200 + e)).length ≠ 0 := ⟨hu2i.mp q30, by rw [← hn]; exact q39⟩
        have e9 := fc_carry_eq n5 hi hp q6 he (s := s)
        rw [if_pos hC, g0, g1, g2, hmt] at e9
        rw [e9]
        clear e9
        have key : ∀ (m k : Nat) (r1 : fr_S), k + m = 3 * (n - 1) → r1 = fr_sh (fr_up r 12 e (nI (n - 1))) [13] (18 * e) k 3 → gm_W (fr_P A) fr_X g y_M_carry 4 108 (fun v r' => v = some (.int (am_b true)) ∧ fr_rel ns room idle (if x0 = -1 then fc_slight (fc_del s (200 + e) 0) (mt / 4) [1, nI (mt % 4), x1, -1, 0] else fc_in (fc_del s (200 + e) 0) (mt / 4) (nI (mt % 4)) x0 x1 x2) r') 97 [some (.ref (A 44)), some (.int (nI i)), some (.int (nI p')), some (.int (nI e)), some (.int x0), some (.int x1), some (.int x2), some (.int (nI (18 * e + k))), none] [] r1 := by
          intro m
          induction m with
          | zero =>
            intro k r1 hk hr
            have hv : r1.2 12 e = nI (n - 1) := by rw [hr, fr_sh_not (by decide), fr_up_at, if_pos ⟨rfl, rfl⟩]
            have e1 : k = 3 * (n - 1) := by omega
            have er : r1 = fr_wdel r e n := by rw [hr, e1]; rfl
            rcases hfrm with ⟨f, t, nr, hf, ht, ee⟩ | ⟨o, ho, ee⟩
            · simp only [List.cons.injEq] at ee
              obtain ⟨rfl, rfl, rfl, -⟩ := ee
              refine gm_iload d_M_carry_97 rfl ?_
              refine gm_bipush (v := nI 18) d_M_carry_99 (by decide) ?_
              refine gm_iload_n d_M_carry_101 rfl ?_
              first | refine gm_imulN d_M_carry_102 ?_ | refine gm_imul d_M_carry_102 ?_
              refine gm_iconst (v := nI 3) d_M_carry_103 (by decide) ?_
              refine gm_aload_n d_M_carry_104 rfl (by first | exact am_rvR _ | exact am_rvN | assumption) ?_
              refine fr_gA 12 d_M_carry_105 f_M_32 (by decide) (by decide) ?_
              refine gm_iload_n d_M_carry_108 rfl ?_
              refine fr_aldv d_M_carry_109 (by decide) rfl (show _ < 20 by omega) (by first | assumption | (simp only [fr_up_at, fr_up_s, fr_sc_at, fr_sc_a, Nat.reduceEqDiff, false_and, if_false, ite_false, reduceCtorEq]; first | assumption | rfl) | rfl) ?_
              first | refine gm_imulN d_M_carry_110 ?_ | refine gm_imul d_M_carry_110 ?_
              first | refine gm_iaddN d_M_carry_111 ?_ | refine gm_iadd d_M_carry_111 ?_
              refine gm_icmp_geN (tgt := 137) d_M_carry_112 (by decide) (by omega) (by omega) (fun _ => ?_) (fun q => absurd q (by omega))
              clear hv
              subst er
              refine gm_aload_n d_M_carry_137 rfl (by first | exact am_rvR _ | exact am_rvN | assumption) ?_
              refine fr_gA 5 d_M_carry_138 f_M_13 (by decide) (by decide) ?_
              refine gm_iload_n d_M_carry_141 rfl ?_
              refine fr_aldv d_M_carry_142 (by decide) rfl (show _ < 20 by omega) (by first | assumption | (simp only [fr_up_at, fr_up_s, fr_sc_at, fr_sc_a, Nat.reduceEqDiff, false_and, if_false, ite_false, reduceCtorEq]; first | assumption | rfl) | rfl) ?_
              refine gm_iconst (v := nI 4) d_M_carry_143 (by decide) ?_
              first | refine gm_idivN d_M_carry_144 (by omega) (by omega) (by omega) ?_ | refine gm_idiv d_M_carry_144 (by decide) ?_
              refine gm_istore (L1 := [_, _, _, _, _, _, _, _, _]) d_M_carry_145 (by decide) rfl ?_
              refine gm_aload_n d_M_carry_147 rfl (by first | exact am_rvR _ | exact am_rvN | assumption) ?_
              refine fr_gA 5 d_M_carry_148 f_M_13 (by decide) (by decide) ?_
              refine gm_iload_n d_M_carry_151 rfl ?_
              refine fr_aldv d_M_carry_152 (by decide) rfl (show _ < 20 by omega) (by first | assumption | (simp only [fr_up_at, fr_up_s, fr_sc_at, fr_sc_a, Nat.reduceEqDiff, false_and, if_false, ite_false, reduceCtorEq]; first | assumption | rfl) | rfl) ?_
              refine gm_iconst (v := nI 4) d_M_carry_153 (by decide) ?_
              first | refine gm_iremN d_M_carry_154 (by omega) (by omega) (by omega) ?_ | refine gm_irem d_M_carry_154 (by decide) ?_
              refine gm_istore (L1 := [_, _, _, _, _, _, _, _, _]) d_M_carry_155 (by decide) rfl ?_
              refine gm_iload d_M_carry_157 rfl ?_
              refine gm_if_geN (tgt := 178) d_M_carry_159 (by decide) (by omega) (fun _ => ?_) (fun q => absurd q (by omega))
              refine gm_aload_n d_M_carry_178 rfl (by first | exact am_rvR _ | exact am_rvN | assumption) ?_
              refine gm_iload d_M_carry_179 rfl ?_
              refine gm_iload d_M_carry_181 rfl ?_
              refine gm_iload d_M_carry_183 rfl ?_
              refine gm_iload d_M_carry_185 rfl ?_
              refine gm_iload d_M_carry_187 rfl ?_
              refine gm_cV (b := A 44) d_M_carry_189 v_M_180 (vs := [.int (nI (mt / 4)), .int (nI (mt % 4)), .int (nI f), .int (nI t), .int x2]) (st := []) rfl rfl (by decide) (Nat.le_of_ble_eq_true rfl) (fr_at _) (rf_comesIn H1 J1 U1 (show mt / 4 < ns by omega) (by omega) hf ht x2) ?_
              rintro v r1 ⟨rfl, h1⟩
              refine gm_iconst (v := nI 1) d_M_carry_192 (by decide) ?_
              refine gm_iret d_M_carry_193 rfl (by first | rfl | exact am_b_nar _) ?_
              exact ⟨rfl, by rw [if_neg (cl_ix_ne (show f < 2 ^ 31 by omega))]; exact h1⟩
            · simp only [List.cons.injEq] at ee
              obtain ⟨rfl, rfl, rfl, -⟩ := ee
              refine gm_iload d_M_carry_97 rfl ?_
              refine gm_bipush (v := nI 18) d_M_carry_99 (by decide) ?_
              refine gm_iload_n d_M_carry_101 rfl ?_
              first | refine gm_imulN d_M_carry_102 ?_ | refine gm_imul d_M_carry_102 ?_
              refine gm_iconst (v := nI 3) d_M_carry_103 (by decide) ?_
              refine gm_aload_n d_M_carry_104 rfl (by first | exact am_rvR _ | exact am_rvN | assumption) ?_
              refine fr_gA 12 d_M_carry_105 f_M_32 (by decide) (by decide) ?_
              refine gm_iload_n d_M_carry_108 rfl ?_
              refine fr_aldv d_M_carry_109 (by decide) rfl (show _ < 20 by omega) (by first | assumption | (simp only [fr_up_at, fr_up_s, fr_sc_at, fr_sc_a, Nat.reduceEqDiff, false_and, if_false, ite_false, reduceCtorEq]; first | assumption | rfl) | rfl) ?_
              first | refine gm_imulN d_M_carry_110 ?_ | refine gm_imul d_M_carry_110 ?_
              first | refine gm_iaddN d_M_carry_111 ?_ | refine gm_iadd d_M_carry_111 ?_
              refine gm_icmp_geN (tgt := 137) d_M_carry_112 (by decide) (by omega) (by omega) (fun _ => ?_) (fun q => absurd q (by omega))
              clear hv
              subst er
              refine gm_aload_n d_M_carry_137 rfl (by first | exact am_rvR _ | exact am_rvN | assumption) ?_
              refine fr_gA 5 d_M_carry_138 f_M_13 (by decide) (by decide) ?_
              refine gm_iload_n d_M_carry_141 rfl ?_
              refine fr_aldv d_M_carry_142 (by decide) rfl (show _ < 20 by omega) (by first | assumption | (simp only [fr_up_at, fr_up_s, fr_sc_at, fr_sc_a, Nat.reduceEqDiff, false_and, if_false, ite_false, reduceCtorEq]; first | assumption | rfl) | rfl) ?_
              refine gm_iconst (v := nI 4) d_M_carry_143 (by decide) ?_
              first | refine gm_idivN d_M_carry_144 (by omega) (by omega) (by omega) ?_ | refine gm_idiv d_M_carry_144 (by decide) ?_
              refine gm_istore (L1 := [_, _, _, _, _, _, _, _, _]) d_M_carry_145 (by decide) rfl ?_
              refine gm_aload_n d_M_carry_147 rfl (by first | exact am_rvR _ | exact am_rvN | assumption) ?_
              refine fr_gA 5 d_M_carry_148 f_M_13 (by decide) (by decide) ?_
              refine gm_iload_n d_M_carry_151 rfl ?_
              refine fr_aldv d_M_carry_152 (by decide) rfl (show _ < 20 by omega) (by first | assumption | (simp only [fr_up_at, fr_up_s, fr_sc_at, fr_sc_a, Nat.reduceEqDiff, false_and, if_false, ite_false, reduceCtorEq]; first | assumption | rfl) | rfl) ?_
              refine gm_iconst (v := nI 4) d_M_carry_153 (by decide) ?_
              first | refine gm_iremN d_M_carry_154 (by omega) (by omega) (by omega) ?_ | refine gm_irem d_M_carry_154 (by decide) ?_
              refine gm_istore (L1 := [_, _, _, _, _, _, _, _, _]) d_M_carry_155 (by decide) rfl ?_
              refine gm_iload d_M_carry_157 rfl ?_
              refine gm_if_ge (tgt := 178) d_M_carry_159 (by decide) (fun q => absurd q (by decide)) (fun _ => ?_)
              refine gm_aload_n d_M_carry_162 rfl (by first | exact am_rvR _ | exact am_rvN | assumption) ?_
              refine gm_iload d_M_carry_163 rfl ?_
              refine gm_iconst (v := nI 1) d_M_carry_165 (by decide) ?_
              refine gm_iload d_M_carry_166 rfl ?_
              refine gm_iload d_M_carry_168 rfl ?_
              refine gm_iconst (v := nI 0) d_M_carry_170 (by decide) ?_
              refine gm_iconst (v := nI 0) d_M_carry_171 (by decide) ?_
              refine gm_cV (b := A 44) d_M_carry_172 v_M_148 (vs := [.int (nI (mt / 4)), .int (nI 1), .int (nI (mt % 4)), .int (nI o), .int (nI 0), .int (nI 0)]) (st := []) rfl rfl (by decide) (Nat.le_of_ble_eq_true rfl) (fr_at _) (rf_tellR (row := [1, nI (mt % 4), nI o, -1, 0]) H1 n5 J1.1.l60 (show mt / 4 < ns by omega) (J1.1.q59 (by omega)) (by omega) rfl) ?_
              rintro v r1 ⟨rfl, h1⟩
              refine gm_goto (tgt := 192) d_M_carry_175 (by decide) ?_
              refine gm_iconst (v := nI 1) d_M_carry_192 (by decide) ?_
              refine gm_iret d_M_carry_193 rfl (by first | rfl | exact am_b_nar _) ?_
              exact ⟨rfl, by rw [if_pos rfl, ← fr_slight1]; exact h1⟩
          | succ m ih =>
            intro k r1 hk hr
            have hv : r1.2 12 e = nI (n - 1) := by rw [hr, fr_sh_not (by decide), fr_up_at, if_pos ⟨rfl, rfl⟩]
            have hv2 : r1.2 13 (18 * e + k + 3) = (fr_up r 12 e (nI (n - 1))).2 13 (18 * e + k + 3) := by rw [hr, fr_sh_out (by omega)]
            refine gm_iload d_M_carry_97 rfl ?_
            refine gm_bipush (v := nI 18) d_M_carry_99 (by decide) ?_
            refine gm_iload_n d_M_carry_101 rfl ?_
            first | refine gm_imulN d_M_carry_102 ?_ | refine gm_imul d_M_carry_102 ?_
            refine gm_iconst (v := nI 3) d_M_carry_103 (by decide) ?_
            refine gm_aload_n d_M_carry_104 rfl (by first | exact am_rvR _ | exact am_rvN | assumption) ?_
            refine fr_gA 12 d_M_carry_105 f_M_32 (by decide) (by decide) ?_
            refine gm_iload_n d_M_carry_108 rfl ?_
            refine fr_aldv d_M_carry_109 (by decide) rfl (show _ < 20 by omega) (by first | assumption | (simp only [fr_up_at, fr_up_s, fr_sc_at, fr_sc_a, Nat.reduceEqDiff, false_and, if_false, ite_false, reduceCtorEq]; first | assumption | rfl) | rfl) ?_
            first | refine gm_imulN d_M_carry_110 ?_ | refine gm_imul d_M_carry_110 ?_
            first | refine gm_iaddN d_M_carry_111 ?_ | refine gm_iadd d_M_carry_111 ?_
            refine gm_icmp_geN (tgt := 137) d_M_carry_112 (by decide) (by omega) (by omega) (fun q => absurd q (by omega)) (fun _ => ?_)
            refine gm_aload_n d_M_carry_115 rfl (by first | exact am_rvR _ | exact am_rvN | assumption) ?_
            refine fr_gA 13 d_M_carry_116 f_M_35 (by decide) (by decide) ?_
            refine gm_iload d_M_carry_119 rfl ?_
            refine gm_aload_n d_M_carry_121 rfl (by first | exact am_rvR _ | exact am_rvN | assumption) ?_
            refine fr_gA 13 d_M_carry_122 f_M_35 (by decide) (by decide) ?_
            refine gm_iload d_M_carry_125 rfl ?_
            refine gm_iconst (v := nI 3) d_M_carry_127 (by decide) ?_
            first | refine gm_iaddN d_M_carry_128 ?_ | refine gm_iadd d_M_carry_128 ?_
            refine fr_aldv d_M_carry_129 (by decide) rfl (show _ < 360 by omega) (by first | assumption | (simp only [fr_up_at, fr_up_s, fr_sc_at, fr_sc_a, Nat.reduceEqDiff, false_and, if_false, ite_false, reduceCtorEq]; first | assumption | rfl) | rfl) ?_
            refine fr_ast d_M_carry_130 (by decide) rfl (show _ < 360 by omega) ?_
            rw [hr]
            first | refine gm_iincN (b := 1) (L1 := [_, _, _, _, _, _, _, _, _]) d_M_carry_131 rfl (by decide) (by decide) rfl ?_ | refine gm_iinc (L1 := [_, _, _, _, _, _, _, _, _]) d_M_carry_131 rfl rfl (by decide) rfl ?_
            refine gm_goto (tgt := 97) d_M_carry_134 (by decide) ?_
            exact ih (k + 1) _ (by omega) (by rw [fr_sh_s1])
        refine gm_aload_n d_M_carry_44 rfl (by first | exact am_rvR _ | exact am_rvN | assumption) ?_
        refine fr_gA 13 d_M_carry_45 f_M_35 (by decide) (by decide) ?_
        refine gm_bipush (v := nI 18) d_M_carry_48 (by decide) ?_
        refine gm_iload_n d_M_carry_50 rfl ?_
        first | refine gm_imulN d_M_carry_51 ?_ | refine gm_imul d_M_carry_51 ?_
        refine fr_aldv d_M_carry_52 (by decide) rfl (show _ < 360 by omega) (by first | assumption | (simp only [fr_up_at, fr_up_s, fr_sc_at, fr_sc_a, Nat.reduceEqDiff, false_and, if_false, ite_false, reduceCtorEq]; first | assumption | rfl) | rfl) ?_
        refine gm_istore (L1 := [_, _, _, _, _, _, _, _, _]) d_M_carry_53 (by decide) rfl ?_
        refine gm_aload_n d_M_carry_55 rfl (by first | exact am_rvR _ | exact am_rvN | assumption) ?_
        refine fr_gA 13 d_M_carry_56 f_M_35 (by decide) (by decide) ?_
        refine gm_bipush (v := nI 18) d_M_carry_59 (by decide) ?_
        refine gm_iload_n d_M_carry_61 rfl ?_
        first | refine gm_imulN d_M_carry_62 ?_ | refine gm_imul d_M_carry_62 ?_
        refine gm_iconst (v := nI 1) d_M_carry_63 (by decide) ?_
        first | refine gm_iaddN d_M_carry_64 ?_ | refine gm_iadd d_M_carry_64 ?_
        refine fr_aldv d_M_carry_65 (by decide) rfl (show _ < 360 by omega) (by first | assumption | (simp only [fr_up_at, fr_up_s, fr_sc_at, fr_sc_a, Nat.reduceEqDiff, false_and, if_false, ite_false, reduceCtorEq]; first | assumption | rfl) | rfl) ?_
        refine gm_istore (L1 := [_, _, _, _, _, _, _, _, _]) d_M_carry_66 (by decide) rfl ?_
        refine gm_aload_n d_M_carry_68 rfl (by first | exact am_rvR _ | exact am_rvN | assumption) ?_
        refine fr_gA 13 d_M_carry_69 f_M_35 (by decide) (by decide) ?_
        refine gm_bipush (v := nI 18) d_M_carry_72 (by decide) ?_
        refine gm_iload_n d_M_carry_74 rfl ?_
        first | refine gm_imulN d_M_carry_75 ?_ | refine gm_imul d_M_carry_75 ?_
        refine gm_iconst (v := nI 2) d_M_carry_76 (by decide) ?_
        first | refine gm_iaddN d_M_carry_77 ?_ | refine gm_iadd d_M_carry_77 ?_
        refine fr_aldv d_M_carry_78 (by decide) rfl (show _ < 360 by omega) (by first | assumption | (simp only [fr_up_at, fr_up_s, fr_sc_at, fr_sc_a, Nat.reduceEqDiff, false_and, if_false, ite_false, reduceCtorEq]; first | assumption | rfl) | rfl) ?_
        refine gm_istore (L1 := [_, _, _, _, _, _, _, _, _]) d_M_carry_79 (by decide) rfl ?_
        refine gm_aload_n d_M_carry_81 rfl (by first | exact am_rvR _ | exact am_rvN | assumption) ?_
        refine fr_gA 12 d_M_carry_82 f_M_32 (by decide) (by decide) ?_
        refine gm_iload_n d_M_carry_85 rfl ?_
        refine gm_dup2 d_M_carry_86 rfl rfl ?_
        refine fr_aldv d_M_carry_87 (by decide) rfl (show _ < 20 by omega) (by first | assumption | (simp only [fr_up_at, fr_up_s, fr_sc_at, fr_sc_a, Nat.reduceEqDiff, false_and, if_false, ite_false, reduceCtorEq]; first | assumption | rfl) | rfl) ?_
        refine gm_iconst (v := nI 1) d_M_carry_88 (by decide) ?_
        first | refine gm_isubN d_M_carry_89 (by omega) ?_ | refine gm_isub d_M_carry_89 ?_
        refine fr_ast d_M_carry_90 (by decide) rfl (show _ < 20 by omega) ?_
        refine gm_bipush (v := nI 18) d_M_carry_91 (by decide) ?_
        refine gm_iload_n d_M_carry_93 rfl ?_
        first | refine gm_imulN d_M_carry_94 ?_ | refine gm_imul d_M_carry_94 ?_
        refine gm_istore (L1 := [_, _, _, _, _, _, _, _, _]) d_M_carry_95 (by decide) rfl ?_
        exact key (3 * (n - 1)) 0 _ (by omega) (by rw [fr_sh_0])
      · refine gm_iconst (v := nI 0) d_M_carry_42 (by decide) ?_
        refine gm_iret d_M_carry_43 rfl (by first | rfl | exact am_b_nar _) ?_
        first | (refine ⟨?_, ?_⟩; (focus (rw [fc_carry_eq n5 hi hp q6 he, if_neg (show ¬ (fc_get s (100 + e) 0 1 ≠ -1 ∧ (s (200 + e)).length ≠ 0) from fun z => absurd (hu2i.mpr z.1) q30)]; try rfl)); (focus (rw [fc_carry_eq n5 hi hp q6 he, if_neg (show ¬ (fc_get s (100 + e) 0 1 ≠ -1 ∧ (s (200 + e)).length ≠ 0) from fun z => absurd (hu2i.mpr z.1) q30)]; exact H))) | (refine ⟨?_, ?_⟩; (focus (rw [fc_carry_eq n5 hi hp q6 he, if_neg (show ¬ (fc_get s (100 + e) 0 1 ≠ -1 ∧ (s (200 + e)).length ≠ 0) from fun z => z.2 q39)]; try rfl)); (focus (rw [fc_carry_eq n5 hi hp q6 he, if_neg (show ¬ (fc_get s (100 + e) 0 1 ≠ -1 ∧ (s (200 + e)).length ≠ 0) from fun z => z.2 q39)]; exact H)))
end REL
