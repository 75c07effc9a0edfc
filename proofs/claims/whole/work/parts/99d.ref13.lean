/-! the reference: a course is laid, dropped -/
section RER
variable {g : am_G} {A : Nat → Nat} {r : fr_S} {ns room idle : Nat} {s : fc_S} {own : Int32 → Int32 × Int32} {W : Nat}
theorem rf_lay {c f t : Nat} {st wv aw ld kp kn x0 : Int32} {way0 way : List Int32} (H : fr_rx ns room idle s r c) (n5 : ns ≤ 5) (hrm : fr_room ns 46 s) (hc6 : c < 6) (h2 : s 2 = [[x0]]) (hr : (s 7)[c]? = some ([nI f, nI t, st, wv, aw, ld, kp, kn] ++ way0)) (w5 : ∀ (j : Nat) (row : List Int32), j ≠ c → (s 7)[j]? = some row → (row.drop 8).length ≤ 5) (hf : f < 6) (ht : t < 6) (Io : fc_iO ns s) (h33 : r.2 33 c = nI (6 * f + t)) (h40 : r.2 40 c = kp) (h41 : r.2 41 c = kn) (hway : way = fc_wayOf ns s (nI f) (nI t)) (hne : way ≠ []) (hfd : fr_fd way r) : gm_M (fr_P A) fr_X g y_M_lay "(I)V" 3 76 [.ref (A 44), .int (nI c)] (fun v r' => v = none ∧ fr_rel ns room idle (fc_lay s c way) r') r := by
  have hc := (List.getElem?_eq_some_iff.mp hr).1
  have hok := fc_wayOf_ok n5 Io hf ht
  have hld := fun k => fc_wayOf_ld (k := k) n5 Io hf ht
  obtain ⟨b, hb, hg5, hlast⟩ := fc_wayOf_last n5 Io hf ht (by rw [← hway]; exact hne)
  rw [← hway] at hok hld hlast
  obtain ⟨hw5, hwe⟩ := hok
  have hlen : 0 < way.length := List.length_pos_iff.mpr hne
  have h42 : r.1 42 = nI way.length := hfd.1
  have h28 : ∀ x, x < 4 * ns → r.2 28 x = fc_get s 3 0 x + nI 1 := fun x hx => (H.2.2.2.2.2.2.2.1.1 x hx).1
  have h30 : r.2 30 t = nI (b + 1) := by rw [H.2.2.2.2.2.2.2.1.2 t ht, hg5, nI_add]
  have swm : ∀ m, m < 4 * ns → fz_sw (nI m) = m / 4 := fun m hm => by unfold fz_sw; rw [nI_clamp (by omega)]
  have key : ∀ (q k : Nat) (x3 : Option Value) (r1 : fr_S), k + q = way.length → fr_sm [38, 39] r r1 → (∀ i, i ≠ c → r1.2 38 i = r.2 38 i) → (∀ i, i < 5 * c ∨ 5 * c + 5 ≤ i → r1.2 39 i = r.2 39 i) → r1.2 38 c = nI way.length → (∀ (j : Nat) (x : Int32), j < k → way[j]? = some x → r1.2 39 (5 * c + j) = fr_wc x) → gm_W (fr_P A) fr_X g y_M_lay 3 76 (fun v r' => v = none ∧ fr_rel ns room idle (fc_lay s c way) r') 12 [some (.ref (A 44)), some (.int (nI c)), some (.int (nI k)), x3] [] r1 := by
    intro q
    induction q with
    | zero =>
      intro k x3 r1 hk hs1 e38 e39 h38 hw
      have h42b : r1.1 42 = nI way.length := (hs1 42 (by decide)).1.trans h42
      refine gm_iload_n d_M_lay_12 rfl ?_
      refine gm_aload_n d_M_lay_13 rfl (by first | exact am_rvR _ | exact am_rvN | assumption) ?_
      refine fr_gSv 42 d_M_lay_14 f_M_200 (by decide) rfl (by first | assumption | (simp only [fr_up_at, fr_up_s, fr_sc_at, fr_sc_a, Nat.reduceEqDiff, false_and, if_false, ite_false, reduceCtorEq]; first | assumption | rfl) | rfl) ?_
      refine gm_icmp_geN (tgt := 96) d_M_lay_17 (by decide) (by omega) (by omega) (fun _ => ?_) (fun q => absurd q (by omega))
      refine gm_aload_n d_M_lay_96 rfl (by first | exact am_rvR _ | exact am_rvN | assumption) ?_
      refine fr_gA 34 d_M_lay_97 f_M_92 (by decide) (by decide) ?_
      refine gm_iload_n d_M_lay_100 rfl ?_
      refine gm_iconst (v := nI 2) d_M_lay_101 (by decide) ?_
      refine fr_ast d_M_lay_102 (by decide) rfl (show _ < 6 by omega) ?_
      have hs3 : fr_sm [33, 34, 35, 36, 37, 38, 39, 40, 41, 42, 43] r (fr_up r1 34 c (nI 2)) := (hs1.mono (by decide)).up (by decide) _ _
      have g : ∀ q, q ≠ 34 → q ≠ 38 → q ≠ 39 → (fr_up r1 34 c (nI 2)).2 q = r.2 q := fun q a1 a2 a3 => by
        rw [fr_up_ne a1]
        exact (hs1 q (by simp [a2, a3])).2
      have H4 : fr_rel ns room idle (fc_up s 7 ((s 7).set c ([nI f, nI t, 2, r.2 35 c, aw, r.2 37 c, kp, kn] ++ way))) (fr_up r1 34 c (nI 2)) := by
        refine (H.mod hs3 w5 (fun i hi => fr_mem8 (by rw [g _ (by decide) (by decide) (by decide)]) ?_ (by rw [g _ (by decide) (by decide) (by decide)]) (by rw [g _ (by decide) (by decide) (by decide)]) (by rw [g _ (by decide) (by decide) (by decide)]) (by rw [fr_up_ne (by decide)]; exact e38 i hi) (by rw [g _ (by decide) (by decide) (by decide)]) (by rw [g _ (by decide) (by decide) (by decide)])) (fun i hi => by rw [fr_up_ne (by decide)]; exact e39 i hi)).fill n5 hc ⟨?_, ?_, ?_, fun z => absurd z (by show ¬ (2 : Int32) = 1; decide), ?_, ?_, fun j e hj => ?_, ?_, ?_⟩
        · rw [fr_up_hit, if_neg hi, (hs1 34 (by decide)).2]
        · rw [g _ (by decide) (by decide) (by decide), h33]; exact (fr_pairE f t).symm
        · rw [fr_up_hit, if_pos rfl]; rfl
        · rw [g _ (by decide) (by decide) (by decide)]; rfl
        · rw [g _ (by decide) (by decide) (by decide)]; rfl
        · rw [fr_up_ne (by decide), h38]; rfl
        · rw [fr_up_ne (by decide)]; exact hw j e (by have := (List.getElem?_eq_some_iff.mp hj).1; have h9 : j < way.length := this; omega) hj
        · rw [g _ (by decide) (by decide) (by decide), h40]; rfl
        · rw [g _ (by decide) (by decide) (by decide), h41]; rfl
      have h42c : (fr_up r1 34 c (nI 2)).1 42 = nI way.length := h42b
      refine gm_aload_n d_M_lay_103 rfl (by first | exact am_rvR _ | exact am_rvN | assumption) ?_
      refine gm_iload_n d_M_lay_104 rfl ?_
      refine gm_aload_n d_M_lay_105 rfl (by first | exact am_rvR _ | exact am_rvN | assumption) ?_
      refine fr_gSv 42 d_M_lay_106 f_M_200 (by decide) rfl (by first | assumption | (simp only [fr_up_at, fr_up_s, fr_sc_at, fr_sc_a, Nat.reduceEqDiff, false_and, if_false, ite_false, reduceCtorEq]; first | assumption | rfl) | rfl) ?_
      refine gm_iconst (v := nI 1) d_M_lay_109 (by decide) ?_
      first | refine gm_isubN d_M_lay_110 (by omega) ?_ | refine gm_isub d_M_lay_110 ?_
      refine gm_cV (b := A 44) d_M_lay_111 v_M_212 (vs := [.int (nI c), .int (nI (way.length - 1))]) (st := []) rfl rfl (by decide) (Nat.le_of_ble_eq_true rfl) (fr_at _) (rf_lead (x0 := x0) H4 n5 (hrm.same (fun i hi => ⟨fc_up_ne _ (by omega), fc_up_ne _ (by omega)⟩)) hc6 (by rw [fc_up_ne _ (by omega)]; exact h2) (by rw [fc_up_same, List.getElem?_set_self hc]) (fun j row hj hj2 => by rw [fc_up_same, List.getElem?_set_ne (Ne.symm hj)] at hj2; exact w5 j row hj hj2) hf ht (show way.length - 1 < 5 by omega) hlast hb) ?_
      rintro v r3 ⟨rfl, H5⟩
      refine gm_vret d_M_lay_114 rfl ?_
      exact ⟨rfl, by rw [fc_lay_alt (wv' := r.2 35 c) (ld' := r.2 37 c) hr h2 (by omega) hw5 hlast (by omega)]; exact H5⟩
    | succ q ih =>
      intro k x3 r1 hk hs1 e38 e39 h38 hw
      have h42b : r1.1 42 = nI way.length := (hs1 42 (by decide)).1.trans h42
      have h33b : r1.2 33 c = nI (6 * f + t) := by rw [(hs1 33 (by decide)).2]; exact h33
      have h30b : r1.2 30 t = nI (b + 1) := by rw [(hs1 30 (by decide)).2]; exact h30
      have h28b : ∀ x, x < 4 * ns → r1.2 28 x = fc_get s 3 0 x + nI 1 := fun x hx => by rw [(hs1 28 (by decide)).2]; exact h28 x hx
      have go : ∀ (m : Nat) (r2 : fr_S), way[k]? = some (nI m) → m < 4 * ns → r2 = fr_up r1 39 (5 * c + k) (nI (5 * (m / 4) + m % 4)) → fr_sm [38, 39] r r2 ∧ (∀ i, i ≠ c → r2.2 38 i = r.2 38 i) ∧ (∀ i, i < 5 * c ∨ 5 * c + 5 ≤ i → r2.2 39 i = r.2 39 i) ∧ r2.2 38 c = nI way.length ∧ (∀ (j : Nat) (x : Int32), j < k + 1 → way[j]? = some x → r2.2 39 (5 * c + j) = fr_wc x) := fun m r2 hx hm e2 => by
        subst e2
        refine ⟨hs1.up (by decide) _ _, fun i hi => by rw [fr_up_ne (by decide)]; exact e38 i hi, fun i hi => by rw [fr_up_hit, if_neg (by omega)]; exact e39 i hi, by rw [fr_up_ne (by decide)]; exact h38, fun j x hj hjx => ?_⟩
        rw [fr_up_hit]
        by_cases e : j = k
        · subst e
          rw [hx] at hjx
          cases hjx
          rw [if_pos rfl, fr_wc_nI (by omega)]
        · rw [if_neg (by omega)]
          exact hw j x (by omega) hjx
      by_cases hk1 : k + 1 < way.length
      · obtain ⟨mt, mt', hmt, hmt', hx, hx', hE, hmd⟩ := hld k hk1
        have h43 : r1.2 43 k = nI (mt / 4) := by rw [(hs1 43 (by decide)).2, hfd.2 k _ hx, swm mt hmt]
        have h43' : r1.2 43 (k + 1) = nI (mt' / 4) := by rw [(hs1 43 (by decide)).2, hfd.2 _ _ hx', swm mt' hmt']
        refine gm_iload_n d_M_lay_12 rfl ?_
        refine gm_aload_n d_M_lay_13 rfl (by first | exact am_rvR _ | exact am_rvN | assumption) ?_
        refine fr_gSv 42 d_M_lay_14 f_M_200 (by decide) rfl (by first | assumption | (simp only [fr_up_at, fr_up_s, fr_sc_at, fr_sc_a, Nat.reduceEqDiff, false_and, if_false, ite_false, reduceCtorEq]; first | assumption | rfl) | rfl) ?_
        refine gm_icmp_geN (tgt := 96) d_M_lay_17 (by decide) (by omega) (by omega) (fun q => absurd q (by omega)) (fun _ => ?_)
        refine gm_iload_n d_M_lay_20 rfl ?_
        refine gm_iconst (v := nI 1) d_M_lay_21 (by decide) ?_
        first | refine gm_iaddN d_M_lay_22 ?_ | refine gm_iadd d_M_lay_22 ?_
        refine gm_aload_n d_M_lay_23 rfl (by first | exact am_rvR _ | exact am_rvN | assumption) ?_
        refine fr_gSv 42 d_M_lay_24 f_M_200 (by decide) rfl (by first | assumption | (simp only [fr_up_at, fr_up_s, fr_sc_at, fr_sc_a, Nat.reduceEqDiff, false_and, if_false, ite_false, reduceCtorEq]; first | assumption | rfl) | rfl) ?_
        refine gm_icmp_geN (tgt := 51) d_M_lay_27 (by decide) (by omega) (by omega) (fun q => absurd q (by omega)) (fun _ => ?_)
        refine gm_aload_n d_M_lay_30 rfl (by first | exact am_rvR _ | exact am_rvN | assumption) ?_
        refine gm_aload_n d_M_lay_31 rfl (by first | exact am_rvR _ | exact am_rvN | assumption) ?_
        refine fr_gA 43 d_M_lay_32 f_M_116 (by decide) (by decide) ?_
        refine gm_iload_n d_M_lay_35 rfl ?_
        refine fr_aldv d_M_lay_36 (by decide) rfl (show _ < 5 by omega) (by first | assumption | (simp only [fr_up_at, fr_up_s, fr_sc_at, fr_sc_a, Nat.reduceEqDiff, false_and, if_false, ite_false, reduceCtorEq]; first | assumption | rfl) | rfl) ?_
        refine gm_aload_n d_M_lay_37 rfl (by first | exact am_rvR _ | exact am_rvN | assumption) ?_
        refine fr_gA 43 d_M_lay_38 f_M_116 (by decide) (by decide) ?_
        refine gm_iload_n d_M_lay_41 rfl ?_
        refine gm_iconst (v := nI 1) d_M_lay_42 (by decide) ?_
        first | refine gm_iaddN d_M_lay_43 ?_ | refine gm_iadd d_M_lay_43 ?_
        refine fr_aldv d_M_lay_44 (by decide) rfl (show _ < 5 by omega) (by first | assumption | (simp only [fr_up_at, fr_up_s, fr_sc_at, fr_sc_a, Nat.reduceEqDiff, false_and, if_false, ite_false, reduceCtorEq]; first | assumption | rfl) | rfl) ?_
        refine gm_cV (b := A 44) d_M_lay_45 v_M_197 (vs := [.int (nI (mt / 4)), (.int (nI (mt' / 4)))]) (st := []) rfl rfl (by decide) (Nat.le_of_ble_eq_true rfl) (fr_at _) (rf_leads h28b n5 Io (show mt / 4 < ns by omega) (by omega)) ?_
        rintro v r2 ⟨rfl, hr2⟩
        subst r2
        rw [show fr_ldv s (mt / 4) (mt' / 4) = nI (mt % 4) by unfold fr_ldv; rw [if_pos hE, hmd]]
        refine gm_goto (tgt := 69) d_M_lay_48 (by decide) ?_
        refine gm_istore_n (L1 := [_, _, _, _]) d_M_lay_69 (by decide) rfl ?_
        refine gm_aload_n d_M_lay_70 rfl (by first | exact am_rvR _ | exact am_rvN | assumption) ?_
        refine fr_gA 39 d_M_lay_71 f_M_107 (by decide) (by decide) ?_
        refine gm_iconst (v := nI 5) d_M_lay_74 (by decide) ?_
        refine gm_iload_n d_M_lay_75 rfl ?_
        first | refine gm_imulN d_M_lay_76 ?_ | refine gm_imul d_M_lay_76 ?_
        refine gm_iload_n d_M_lay_77 rfl ?_
        first | refine gm_iaddN d_M_lay_78 ?_ | refine gm_iadd d_M_lay_78 ?_
        refine gm_iconst (v := nI 5) d_M_lay_79 (by decide) ?_
        refine gm_aload_n d_M_lay_80 rfl (by first | exact am_rvR _ | exact am_rvN | assumption) ?_
        refine fr_gA 43 d_M_lay_81 f_M_116 (by decide) (by decide) ?_
        refine gm_iload_n d_M_lay_84 rfl ?_
        refine fr_aldv d_M_lay_85 (by decide) rfl (show _ < 5 by omega) (by first | assumption | (simp only [fr_up_at, fr_up_s, fr_sc_at, fr_sc_a, Nat.reduceEqDiff, false_and, if_false, ite_false, reduceCtorEq]; first | assumption | rfl) | rfl) ?_
        first | refine gm_imulN d_M_lay_86 ?_ | refine gm_imul d_M_lay_86 ?_
        refine gm_iload_n d_M_lay_87 rfl ?_
        first | refine gm_iaddN d_M_lay_88 ?_ | refine gm_iadd d_M_lay_88 ?_
        refine fr_ast d_M_lay_89 (by decide) rfl (show _ < 30 by omega) ?_
        first | refine gm_iincN (b := 1) (L1 := [_, _, _, _]) d_M_lay_90 rfl (by decide) (by decide) rfl ?_ | refine gm_iinc (L1 := [_, _, _, _]) d_M_lay_90 rfl rfl (by decide) rfl ?_
        refine gm_goto (tgt := 12) d_M_lay_93 (by decide) ?_
        obtain ⟨g1, g2, g3, g4, g5⟩ := go mt _ hx hmt rfl
        exact ih (k + 1) _ _ (by omega) g1 g2 g3 g4 g5
      · obtain ⟨mt, emt⟩ : ∃ mt, mt = b := ⟨_, rfl⟩
        have hmt : mt < 4 * ns := by omega
        have hx : way[k]? = some (nI mt) := by rw [emt, show k = way.length - 1 by omega]; exact hlast
        have h43 : r1.2 43 k = nI (mt / 4) := by rw [(hs1 43 (by decide)).2, hfd.2 k _ hx, swm mt hmt]
        rw [← emt] at h30b
        refine gm_iload_n d_M_lay_12 rfl ?_
        refine gm_aload_n d_M_lay_13 rfl (by first | exact am_rvR _ | exact am_rvN | assumption) ?_
        refine fr_gSv 42 d_M_lay_14 f_M_200 (by decide) rfl (by first | assumption | (simp only [fr_up_at, fr_up_s, fr_sc_at, fr_sc_a, Nat.reduceEqDiff, false_and, if_false, ite_false, reduceCtorEq]; first | assumption | rfl) | rfl) ?_
        refine gm_icmp_geN (tgt := 96) d_M_lay_17 (by decide) (by omega) (by omega) (fun q => absurd q (by omega)) (fun _ => ?_)
        refine gm_iload_n d_M_lay_20 rfl ?_
        refine gm_iconst (v := nI 1) d_M_lay_21 (by decide) ?_
        first | refine gm_iaddN d_M_lay_22 ?_ | refine gm_iadd d_M_lay_22 ?_
        refine gm_aload_n d_M_lay_23 rfl (by first | exact am_rvR _ | exact am_rvN | assumption) ?_
        refine fr_gSv 42 d_M_lay_24 f_M_200 (by decide) rfl (by first | assumption | (simp only [fr_up_at, fr_up_s, fr_sc_at, fr_sc_a, Nat.reduceEqDiff, false_and, if_false, ite_false, reduceCtorEq]; first | assumption | rfl) | rfl) ?_
        refine gm_icmp_geN (tgt := 51) d_M_lay_27 (by decide) (by omega) (by omega) (fun _ => ?_) (fun q => absurd q (by omega))
        refine gm_aload_n d_M_lay_51 rfl (by first | exact am_rvR _ | exact am_rvN | assumption) ?_
        refine fr_gA 30 d_M_lay_52 f_M_86 (by decide) (by decide) ?_
        refine gm_aload_n d_M_lay_55 rfl (by first | exact am_rvR _ | exact am_rvN | assumption) ?_
        refine fr_gA 33 d_M_lay_56 f_M_89 (by decide) (by decide) ?_
        refine gm_iload_n d_M_lay_59 rfl ?_
        refine fr_aldv d_M_lay_60 (by decide) rfl (show _ < 6 by omega) (by first | assumption | (simp only [fr_up_at, fr_up_s, fr_sc_at, fr_sc_a, Nat.reduceEqDiff, false_and, if_false, ite_false, reduceCtorEq]; first | assumption | rfl) | rfl) ?_
        refine gm_bipush (v := nI 6) d_M_lay_61 (by decide) ?_
        first | refine gm_iremN d_M_lay_63 (by omega) (by omega) (by omega) ?_ | refine gm_irem d_M_lay_63 (by decide) ?_
        rw [show (6 * f + t) % 6 = t by omega]
        refine fr_aldv d_M_lay_64 (by decide) rfl (show _ < 6 by omega) (by first | assumption | (simp only [fr_up_at, fr_up_s, fr_sc_at, fr_sc_a, Nat.reduceEqDiff, false_and, if_false, ite_false, reduceCtorEq]; first | assumption | rfl) | rfl) ?_
        refine gm_iconst (v := nI 1) d_M_lay_65 (by decide) ?_
        first | refine gm_isubN d_M_lay_66 (by omega) ?_ | refine gm_isub d_M_lay_66 ?_
        rw [Nat.add_sub_cancel]
        refine gm_iconst (v := nI 4) d_M_lay_67 (by decide) ?_
        first | refine gm_iremN d_M_lay_68 (by omega) (by omega) (by omega) ?_ | refine gm_irem d_M_lay_68 (by decide) ?_
        refine gm_istore_n (L1 := [_, _, _, _]) d_M_lay_69 (by decide) rfl ?_
        refine gm_aload_n d_M_lay_70 rfl (by first | exact am_rvR _ | exact am_rvN | assumption) ?_
        refine fr_gA 39 d_M_lay_71 f_M_107 (by decide) (by decide) ?_
        refine gm_iconst (v := nI 5) d_M_lay_74 (by decide) ?_
        refine gm_iload_n d_M_lay_75 rfl ?_
        first | refine gm_imulN d_M_lay_76 ?_ | refine gm_imul d_M_lay_76 ?_
        refine gm_iload_n d_M_lay_77 rfl ?_
        first | refine gm_iaddN d_M_lay_78 ?_ | refine gm_iadd d_M_lay_78 ?_
        refine gm_iconst (v := nI 5) d_M_lay_79 (by decide) ?_
        refine gm_aload_n d_M_lay_80 rfl (by first | exact am_rvR _ | exact am_rvN | assumption) ?_
        refine fr_gA 43 d_M_lay_81 f_M_116 (by decide) (by decide) ?_
        refine gm_iload_n d_M_lay_84 rfl ?_
        refine fr_aldv d_M_lay_85 (by decide) rfl (show _ < 5 by omega) (by first | assumption | (simp only [fr_up_at, fr_up_s, fr_sc_at, fr_sc_a, Nat.reduceEqDiff, false_and, if_false, ite_false, reduceCtorEq]; first | assumption | rfl) | rfl) ?_
        first | refine gm_imulN d_M_lay_86 ?_ | refine gm_imul d_M_lay_86 ?_
        refine gm_iload_n d_M_lay_87 rfl ?_
        first | refine gm_iaddN d_M_lay_88 ?_ | refine gm_iadd d_M_lay_88 ?_
        refine fr_ast d_M_lay_89 (by decide) rfl (show _ < 30 by omega) ?_
        first | refine gm_iincN (b := 1) (L1 := [_, _, _, _]) d_M_lay_90 rfl (by decide) (by decide) rfl ?_ | refine gm_iinc (L1 := [_, _, _, _]) d_M_lay_90 rfl rfl (by decide) rfl ?_
        refine gm_goto (tgt := 12) d_M_lay_93 (by decide) ?_
        obtain ⟨g1, g2, g3, g4, g5⟩ := go mt _ hx hmt rfl
        exact ih (k + 1) _ _ (by omega) g1 g2 g3 g4 g5
  refine gm_Mof (L0 := [some (.ref (A 44)), some (.int (nI c)), none, none]) pl_M_lay (am_k1 rfl (am_k1 rfl am_k0)) (Nat.le_of_ble_eq_true rfl) rfl ?_
  refine gm_aload_n d_M_lay_0 rfl (by first | exact am_rvR _ | exact am_rvN | assumption) ?_
  refine fr_gA 38 d_M_lay_1 f_M_104 (by decide) (by decide) ?_
  refine gm_iload_n d_M_lay_4 rfl ?_
  refine gm_aload_n d_M_lay_5 rfl (by first | exact am_rvR _ | exact am_rvN | assumption) ?_
  refine fr_gSv 42 d_M_lay_6 f_M_200 (by decide) rfl (by first | assumption | (simp only [fr_up_at, fr_up_s, fr_sc_at, fr_sc_a, Nat.reduceEqDiff, false_and, if_false, ite_false, reduceCtorEq]; first | assumption | rfl) | rfl) ?_
  refine fr_ast d_M_lay_9 (by decide) rfl (show _ < 6 by omega) ?_
  refine gm_iconst (v := nI 0) d_M_lay_10 (by decide) ?_
  refine gm_istore_n (L1 := [_, _, _, _]) d_M_lay_11 (by decide) rfl ?_
  exact key way.length 0 none _ (by omega) ((fr_sm.refl _ r).up (by decide) _ _) (fun i hi => by rw [fr_up_hit, if_neg hi]) (fun i _ => by rw [fr_up_ne (by decide)]) (by rw [fr_up_hit, if_pos rfl]) (fun j x hj => absurd hj (Nat.not_lt_zero _))
theorem am_nar01 {x : Int32} (h : x = 0 ∨ x = 1) : narrow .boolean (.int x) = .int x := by rcases h with h | h <;> subst h <;> rfl
theorem rf_drop {c n : Nat} (hc : c < n) (hn : r.1 32 = nI n) (n6 : n ≤ 6) (hkp : ∀ j, j < n → r.2 40 j = 0 ∨ r.2 40 j = 1) : gm_M (fr_P A) fr_X g y_M_drop "(I)V" 0 0 [.ref (A 44), .int (nI c)] (fun v r' => v = none ∧ r' = fr_drp r n c (n - 1 - c)) r := by
  have key : ∀ (q k : Nat) (x3 : Option Value) (r1 : fr_S), k + q = n - 1 - c → r1 = fr_drp r n c k → gm_W (fr_P A) fr_X g y_M_drop 0 0 (fun v r' => v = none ∧ r' = fr_drp r n c (n - 1 - c)) 12 [some (.ref (A 44)), some (.int (nI c)), some (.int (nI (c + k))), x3] [] r1 := by
    intro q
    induction q with
    | zero =>
      intro k x3 r1 hk hr
      have h32 : r1.1 32 = nI (n - 1) := by rw [hr]; rfl
      have ek : k = n - 1 - c := by omega
      refine gm_iload_n d_M_drop_12 rfl ?_
      refine gm_aload_n d_M_drop_13 rfl (by first | exact am_rvR _ | exact am_rvN | assumption) ?_
      refine fr_gSv 32 d_M_drop_14 f_M_206 (by decide) rfl (by first | assumption | (simp only [fr_up_at, fr_up_s, fr_sc_at, fr_sc_a, Nat.reduceEqDiff, false_and, if_false, ite_false, reduceCtorEq]; first | assumption | rfl) | rfl) ?_
      refine gm_icmp_geN (tgt := 173) d_M_drop_17 (by decide) (by omega) (by omega) (fun _ => ?_) (fun q => absurd q (by omega))
      refine gm_vret d_M_drop_173 rfl ?_
      exact ⟨rfl, by rw [hr, ek]⟩
    | succ q ih =>
      intro k x3 r1 hk hr
      have h32 : r1.1 32 = nI (n - 1) := by rw [hr]; rfl
      have hv : ∀ f ∈ [33, 34, 35, 36, 37, 38, 40, 41], r1.2 f (c + k + 1) = (fr_sc r 32 (nI (n - 1))).2 f (c + k + 1) := fun f hf => by rw [hr, fr_drp_8 hf, if_neg (by omega)]; rfl
      have hv33 := hv 33 (by decide)
      have hv34 := hv 34 (by decide)
      have hv35 := hv 35 (by decide)
      have hv36 := hv 36 (by decide)
      have hv37 := hv 37 (by decide)
      have hv38 := hv 38 (by decide)
      have hv40 := hv 40 (by decide)
      have hv41 := hv 41 (by decide)
      have inner : ∀ (q2 j : Nat) (r2 : fr_S), j + q2 = 5 → r2 = fr_sh (fr_sh (fr_sc r 32 (nI (n - 1))) [33, 34, 35, 36, 37, 38, 40, 41] c (k + 1) 1) [39] (5 * c) (5 * k + j) 5 → gm_W (fr_P A) fr_X g y_M_drop 0 0 (fun v r' => v = none ∧ r' = fr_drp r n c (n - 1 - c)) 134 [some (.ref (A 44)), some (.int (nI c)), some (.int (nI (c + k))), some (.int (nI j))] [] r2 := by
        intro q2
        induction q2 with
        | zero =>
          intro j r2 hj hr2
          have ej : j = 5 := by omega
          subst ej
          refine gm_iload_n d_M_drop_134 rfl ?_
          refine gm_iconst (v := nI 5) d_M_drop_135 (by decide) ?_
          refine gm_icmp_geN (tgt := 167) d_M_drop_136 (by decide) (by omega) (by omega) (fun _ => ?_) (fun q => absurd q (by omega))
          first | refine gm_iincN (b := 1) (L1 := [_, _, _, _]) d_M_drop_167 rfl (by decide) (by decide) rfl ?_ | refine gm_iinc (L1 := [_, _, _, _]) d_M_drop_167 rfl rfl (by decide) rfl ?_
          refine gm_goto (tgt := 12) d_M_drop_170 (by decide) ?_
          exact ih (k + 1) _ _ (by omega) (by rw [hr2]; unfold fr_drp; rw [show 5 * k + 5 = 5 * (k + 1) by omega])
        | succ q2 ih2 =>
          intro j r2 hj hr2
          have hv39 : r2.2 39 (5 * (c + k) + 5 + j) = (fr_sh (fr_sc r 32 (nI (n - 1))) [33, 34, 35, 36, 37, 38, 40, 41] c (k + 1) 1).2 39 (5 * c + (5 * k + j) + 5) := by rw [hr2, show 5 * (c + k) + 5 + j = 5 * c + (5 * k + j) + 5 by omega, fr_sh_out (by omega)]
          refine gm_iload_n d_M_drop_134 rfl ?_
          refine gm_iconst (v := nI 5) d_M_drop_135 (by decide) ?_
          refine gm_icmp_geN (tgt := 167) d_M_drop_136 (by decide) (by omega) (by omega) (fun q => absurd q (by omega)) (fun _ => ?_)
          refine gm_aload_n d_M_drop_139 rfl (by first | exact am_rvR _ | exact am_rvN | assumption) ?_
          refine fr_gA 39 d_M_drop_140 f_M_107 (by decide) (by decide) ?_
          refine gm_iconst (v := nI 5) d_M_drop_143 (by decide) ?_
          refine gm_iload_n d_M_drop_144 rfl ?_
          first | refine gm_imulN d_M_drop_145 ?_ | refine gm_imul d_M_drop_145 ?_
          refine gm_iload_n d_M_drop_146 rfl ?_
          first | refine gm_iaddN d_M_drop_147 ?_ | refine gm_iadd d_M_drop_147 ?_
          refine gm_aload_n d_M_drop_148 rfl (by first | exact am_rvR _ | exact am_rvN | assumption) ?_
          refine fr_gA 39 d_M_drop_149 f_M_107 (by decide) (by decide) ?_
          refine gm_iconst (v := nI 5) d_M_drop_152 (by decide) ?_
          refine gm_iload_n d_M_drop_153 rfl ?_
          first | refine gm_imulN d_M_drop_154 ?_ | refine gm_imul d_M_drop_154 ?_
          refine gm_iconst (v := nI 5) d_M_drop_155 (by decide) ?_
          first | refine gm_iaddN d_M_drop_156 ?_ | refine gm_iadd d_M_drop_156 ?_
          refine gm_iload_n d_M_drop_157 rfl ?_
          first | refine gm_iaddN d_M_drop_158 ?_ | refine gm_iadd d_M_drop_158 ?_
          refine fr_aldv d_M_drop_159 (by decide) rfl (show _ < 30 by omega) (by first | assumption | (simp only [fr_up_at, fr_up_s, fr_sc_at, fr_sc_a, Nat.reduceEqDiff, false_and, if_false, ite_false, reduceCtorEq]; first | assumption | rfl) | rfl) ?_
          refine fr_ast d_M_drop_160 (by decide) rfl (show _ < 30 by omega) ?_
          first | refine gm_iincN (b := 1) (L1 := [_, _, _, _]) d_M_drop_161 rfl (by decide) (by decide) rfl ?_ | refine gm_iinc (L1 := [_, _, _, _]) d_M_drop_161 rfl rfl (by decide) rfl ?_
          refine gm_goto (tgt := 134) d_M_drop_164 (by decide) ?_
          exact ih2 (j + 1) _ (by omega) (by rw [hr2, show 5 * (c + k) + j = 5 * c + (5 * k + j) by omega, fr_sh_s1]; rfl)
      refine gm_iload_n d_M_drop_12 rfl ?_
      refine gm_aload_n d_M_drop_13 rfl (by first | exact am_rvR _ | exact am_rvN | assumption) ?_
      refine fr_gSv 32 d_M_drop_14 f_M_206 (by decide) rfl (by first | assumption | (simp only [fr_up_at, fr_up_s, fr_sc_at, fr_sc_a, Nat.reduceEqDiff, false_and, if_false, ite_false, reduceCtorEq]; first | assumption | rfl) | rfl) ?_
      refine gm_icmp_geN (tgt := 173) d_M_drop_17 (by decide) (by omega) (by omega) (fun q => absurd q (by omega)) (fun _ => ?_)
      refine gm_aload_n d_M_drop_20 rfl (by first | exact am_rvR _ | exact am_rvN | assumption) ?_
      refine fr_gA 33 d_M_drop_21 f_M_89 (by decide) (by decide) ?_
      refine gm_iload_n d_M_drop_24 rfl ?_
      refine gm_aload_n d_M_drop_25 rfl (by first | exact am_rvR _ | exact am_rvN | assumption) ?_
      refine fr_gA 33 d_M_drop_26 f_M_89 (by decide) (by decide) ?_
      refine gm_iload_n d_M_drop_29 rfl ?_
      refine gm_iconst (v := nI 1) d_M_drop_30 (by decide) ?_
      first | refine gm_iaddN d_M_drop_31 ?_ | refine gm_iadd d_M_drop_31 ?_
      refine fr_aldv d_M_drop_32 (by decide) rfl (show _ < 6 by omega) (by first | assumption | (simp only [fr_up_at, fr_up_s, fr_sc_at, fr_sc_a, Nat.reduceEqDiff, false_and, if_false, ite_false, reduceCtorEq]; first | assumption | rfl) | rfl) ?_
      refine fr_ast d_M_drop_33 (by decide) rfl (show _ < 6 by omega) ?_
      refine gm_aload_n d_M_drop_34 rfl (by first | exact am_rvR _ | exact am_rvN | assumption) ?_
      refine fr_gA 34 d_M_drop_35 f_M_92 (by decide) (by decide) ?_
      refine gm_iload_n d_M_drop_38 rfl ?_
      refine gm_aload_n d_M_drop_39 rfl (by first | exact am_rvR _ | exact am_rvN | assumption) ?_
      refine fr_gA 34 d_M_drop_40 f_M_92 (by decide) (by decide) ?_
      refine gm_iload_n d_M_drop_43 rfl ?_
      refine gm_iconst (v := nI 1) d_M_drop_44 (by decide) ?_
      first | refine gm_iaddN d_M_drop_45 ?_ | refine gm_iadd d_M_drop_45 ?_
      refine fr_aldv d_M_drop_46 (by decide) rfl (show _ < 6 by omega) (by first | assumption | (simp only [fr_up_at, fr_up_s, fr_sc_at, fr_sc_a, Nat.reduceEqDiff, false_and, if_false, ite_false, reduceCtorEq]; first | assumption | rfl) | rfl) ?_
      refine fr_ast d_M_drop_47 (by decide) rfl (show _ < 6 by omega) ?_
      refine gm_aload_n d_M_drop_48 rfl (by first | exact am_rvR _ | exact am_rvN | assumption) ?_
      refine fr_gA 35 d_M_drop_49 f_M_95 (by decide) (by decide) ?_
      refine gm_iload_n d_M_drop_52 rfl ?_
      refine gm_aload_n d_M_drop_53 rfl (by first | exact am_rvR _ | exact am_rvN | assumption) ?_
      refine fr_gA 35 d_M_drop_54 f_M_95 (by decide) (by decide) ?_
      refine gm_iload_n d_M_drop_57 rfl ?_
      refine gm_iconst (v := nI 1) d_M_drop_58 (by decide) ?_
      first | refine gm_iaddN d_M_drop_59 ?_ | refine gm_iadd d_M_drop_59 ?_
      refine fr_aldv d_M_drop_60 (by decide) rfl (show _ < 6 by omega) (by first | assumption | (simp only [fr_up_at, fr_up_s, fr_sc_at, fr_sc_a, Nat.reduceEqDiff, false_and, if_false, ite_false, reduceCtorEq]; first | assumption | rfl) | rfl) ?_
      refine fr_ast d_M_drop_61 (by decide) rfl (show _ < 6 by omega) ?_
      refine gm_aload_n d_M_drop_62 rfl (by first | exact am_rvR _ | exact am_rvN | assumption) ?_
      refine fr_gA 36 d_M_drop_63 f_M_98 (by decide) (by decide) ?_
      refine gm_iload_n d_M_drop_66 rfl ?_
      refine gm_aload_n d_M_drop_67 rfl (by first | exact am_rvR _ | exact am_rvN | assumption) ?_
      refine fr_gA 36 d_M_drop_68 f_M_98 (by decide) (by decide) ?_
      refine gm_iload_n d_M_drop_71 rfl ?_
      refine gm_iconst (v := nI 1) d_M_drop_72 (by decide) ?_
      first | refine gm_iaddN d_M_drop_73 ?_ | refine gm_iadd d_M_drop_73 ?_
      refine fr_aldv d_M_drop_74 (by decide) rfl (show _ < 6 by omega) (by first | assumption | (simp only [fr_up_at, fr_up_s, fr_sc_at, fr_sc_a, Nat.reduceEqDiff, false_and, if_false, ite_false, reduceCtorEq]; first | assumption | rfl) | rfl) ?_
      refine fr_ast d_M_drop_75 (by decide) rfl (show _ < 6 by omega) ?_
      refine gm_aload_n d_M_drop_76 rfl (by first | exact am_rvR _ | exact am_rvN | assumption) ?_
      refine fr_gA 37 d_M_drop_77 f_M_101 (by decide) (by decide) ?_
      refine gm_iload_n d_M_drop_80 rfl ?_
      refine gm_aload_n d_M_drop_81 rfl (by first | exact am_rvR _ | exact am_rvN | assumption) ?_
      refine fr_gA 37 d_M_drop_82 f_M_101 (by decide) (by decide) ?_
      refine gm_iload_n d_M_drop_85 rfl ?_
      refine gm_iconst (v := nI 1) d_M_drop_86 (by decide) ?_
      first | refine gm_iaddN d_M_drop_87 ?_ | refine gm_iadd d_M_drop_87 ?_
      refine fr_aldv d_M_drop_88 (by decide) rfl (show _ < 6 by omega) (by first | assumption | (simp only [fr_up_at, fr_up_s, fr_sc_at, fr_sc_a, Nat.reduceEqDiff, false_and, if_false, ite_false, reduceCtorEq]; first | assumption | rfl) | rfl) ?_
      refine fr_ast d_M_drop_89 (by decide) rfl (show _ < 6 by omega) ?_
      refine gm_aload_n d_M_drop_90 rfl (by first | exact am_rvR _ | exact am_rvN | assumption) ?_
      refine fr_gA 38 d_M_drop_91 f_M_104 (by decide) (by decide) ?_
      refine gm_iload_n d_M_drop_94 rfl ?_
      refine gm_aload_n d_M_drop_95 rfl (by first | exact am_rvR _ | exact am_rvN | assumption) ?_
      refine fr_gA 38 d_M_drop_96 f_M_104 (by decide) (by decide) ?_
      refine gm_iload_n d_M_drop_99 rfl ?_
      refine gm_iconst (v := nI 1) d_M_drop_100 (by decide) ?_
      first | refine gm_iaddN d_M_drop_101 ?_ | refine gm_iadd d_M_drop_101 ?_
      refine fr_aldv d_M_drop_102 (by decide) rfl (show _ < 6 by omega) (by first | assumption | (simp only [fr_up_at, fr_up_s, fr_sc_at, fr_sc_a, Nat.reduceEqDiff, false_and, if_false, ite_false, reduceCtorEq]; first | assumption | rfl) | rfl) ?_
      refine fr_ast d_M_drop_103 (by decide) rfl (show _ < 6 by omega) ?_
      refine gm_aload_n d_M_drop_104 rfl (by first | exact am_rvR _ | exact am_rvN | assumption) ?_
      refine fr_gA 40 d_M_drop_105 f_M_110 (by decide) (by decide) ?_
      refine gm_iload_n d_M_drop_108 rfl ?_
      refine gm_aload_n d_M_drop_109 rfl (by first | exact am_rvR _ | exact am_rvN | assumption) ?_
      refine fr_gA 40 d_M_drop_110 f_M_110 (by decide) (by decide) ?_
      refine gm_iload_n d_M_drop_113 rfl ?_
      refine gm_iconst (v := nI 1) d_M_drop_114 (by decide) ?_
      first | refine gm_iaddN d_M_drop_115 ?_ | refine gm_iadd d_M_drop_115 ?_
      refine fr_zldv d_M_drop_116 (by decide) rfl (show _ < 6 by omega) (by first | assumption | (simp only [fr_up_at, fr_up_s, fr_sc_at, fr_sc_a, Nat.reduceEqDiff, false_and, if_false, ite_false, reduceCtorEq]; first | assumption | rfl) | rfl) ?_
      refine fr_zst d_M_drop_117 (by decide) rfl (show _ < 6 by omega) (am_nar01 (hkp (c + k + 1) (by omega))) ?_
      refine gm_aload_n d_M_drop_118 rfl (by first | exact am_rvR _ | exact am_rvN | assumption) ?_
      refine fr_gA 41 d_M_drop_119 f_M_113 (by decide) (by decide) ?_
      refine gm_iload_n d_M_drop_122 rfl ?_
      refine gm_aload_n d_M_drop_123 rfl (by first | exact am_rvR _ | exact am_rvN | assumption) ?_
      refine fr_gA 41 d_M_drop_124 f_M_113 (by decide) (by decide) ?_
      refine gm_iload_n d_M_drop_127 rfl ?_
      refine gm_iconst (v := nI 1) d_M_drop_128 (by decide) ?_
      first | refine gm_iaddN d_M_drop_129 ?_ | refine gm_iadd d_M_drop_129 ?_
      refine fr_aldv d_M_drop_130 (by decide) rfl (show _ < 6 by omega) (by first | assumption | (simp only [fr_up_at, fr_up_s, fr_sc_at, fr_sc_a, Nat.reduceEqDiff, false_and, if_false, ite_false, reduceCtorEq]; first | assumption | rfl) | rfl) ?_
      refine fr_ast d_M_drop_131 (by decide) rfl (show _ < 6 by omega) ?_
      refine gm_iconst (v := nI 0) d_M_drop_132 (by decide) ?_
      refine gm_istore_n (L1 := [_, _, _, _]) d_M_drop_133 (by decide) rfl ?_
      exact inner 5 0 _ (by omega) (by rw [hr]; exact fr_drp_s8 (fr_sc r 32 (nI (n - 1))) c k (5 * k))
  refine gm_Mof (L0 := [some (.ref (A 44)), some (.int (nI c)), none, none]) pl_M_drop (am_k1 rfl (am_k1 rfl am_k0)) (Nat.le_of_ble_eq_true rfl) rfl ?_
  refine gm_aload_n d_M_drop_0 rfl (by first | exact am_rvR _ | exact am_rvN | assumption) ?_
  refine gm_dup d_M_drop_1 rfl ?_
  refine fr_gSv 32 d_M_drop_2 f_M_206 (by decide) rfl (by first | assumption | (simp only [fr_up_at, fr_up_s, fr_sc_at, fr_sc_a, Nat.reduceEqDiff, false_and, if_false, ite_false, reduceCtorEq]; first | assumption | rfl) | rfl) ?_
  refine gm_iconst (v := nI 1) d_M_drop_5 (by decide) ?_
  first | refine gm_isubN d_M_drop_6 (by omega) ?_ | refine gm_isub d_M_drop_6 ?_
  refine fr_pS 32 d_M_drop_7 f_M_206 (p_M_206 _) (by decide) rfl ?_
  refine gm_iload_n d_M_drop_10 rfl ?_
  refine gm_istore_n (L1 := [_, _, _, _]) d_M_drop_11 (by decide) rfl ?_
  have h9 := key (n - 1 - c) 0 none (fr_sc r 32 (nI (n - 1))) (by omega) (by unfold fr_drp; rw [Nat.mul_zero, fr_sh_0, fr_sh_0])
  exact h9
end RER
