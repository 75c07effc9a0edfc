/-! the reference: a report is heard -/
section REV
variable {g : am_G} {A : Nat → Nat} {r : fr_S} {ns room idle : Nat} {s : fc_S} {own : Int32 → Int32 × Int32} {W : Nat}
theorem rf_rp_miss {i n : Nat} {p f t : Nat} {nr : Int32} (hp : p ≤ 4) (hf : f < 6) (ht : t < 6) {rest : List (List Int32)} (H : fr_rel ns room idle s r) (J : fz_J own W ns room s) (hW : W + 6 < 2 ^ 31) (hi : i < ns) (hr : s (40 + i) = [0, nI p, nI f, nI t, nr] :: rest) (hn : n = (s (40 + i)).length) : gm_W (fr_P A) fr_X g y_M_report 6 142 (fun v r' => v = some (.int ([0, nI p, nI f, nI t, nr].getD 0 0)) ∧ fr_rel ns room idle (fc_hears ns (fc_del s (40 + i) 0) i [0, nI p, nI f, nI t, nr]) r') 32 [some (.ref (A 44)), some (.int (nI i)), none, none, none] [] (fr_take r (2 * i + 1) n) := by
  have D := J.1
  have n5 := D.1.2.1
  have H1 := H.qtake D hi
  have D1 : fc_iD ns room (fc_del s (40 + i) 0) := D.delL 0 (Or.inr ⟨by omega, by omega⟩)
  rw [← hn] at H1
  have J1 : fz_J own W ns room (fc_del s (40 + i) 0) := J.heard hi hr (fun row hrow _ e => absurd (List.cons.inj e).1 (by decide))
  have i0 : (fr_take r (2 * i + 1) n).2 27 0 = nI 0 := H.qitem hi hr n (show 0 < 5 by decide)
  have i1 : (fr_take r (2 * i + 1) n).2 27 1 = nI p := H.qitem hi hr n (show 1 < 5 by decide)
  have i2 : (fr_take r (2 * i + 1) n).2 27 2 = nI f := H.qitem hi hr n (show 2 < 5 by decide)
  have i3 : (fr_take r (2 * i + 1) n).2 27 3 = nI t := H.qitem hi hr n (show 3 < 5 by decide)
  have i4 : (fr_take r (2 * i + 1) n).2 27 4 = nr := H.qitem hi hr n (show 4 < 5 by decide)
  refine gm_aload_n d_M_report_32 rfl (by first | exact am_rvR _ | exact am_rvN | assumption) ?_
  refine fr_gA 27 d_M_report_33 f_M_77 (by decide) (by decide) ?_
  refine gm_iconst (v := nI 0) d_M_report_36 (by decide) ?_
  refine fr_aldv d_M_report_37 (by decide) rfl (show _ < 5 by omega) (by first | assumption | (simp only [fr_up_at, fr_up_s, fr_sc_at, fr_sc_a, Nat.reduceEqDiff, false_and, if_false, ite_false, reduceCtorEq]; first | assumption | rfl) | rfl) ?_
  refine gm_istore_n (L1 := [_, _, _, _, _]) d_M_report_38 (by decide) rfl ?_
  refine gm_aload_n d_M_report_39 rfl (by first | exact am_rvR _ | exact am_rvN | assumption) ?_
  refine fr_gA 27 d_M_report_40 f_M_77 (by decide) (by decide) ?_
  refine gm_iconst (v := nI 1) d_M_report_43 (by decide) ?_
  refine fr_aldv d_M_report_44 (by decide) rfl (show _ < 5 by omega) (by first | assumption | (simp only [fr_up_at, fr_up_s, fr_sc_at, fr_sc_a, Nat.reduceEqDiff, false_and, if_false, ite_false, reduceCtorEq]; first | assumption | rfl) | rfl) ?_
  refine gm_istore_n (L1 := [_, _, _, _, _]) d_M_report_45 (by decide) rfl ?_
  refine gm_iload_n d_M_report_46 rfl ?_
  refine gm_if_neN (tgt := 77) d_M_report_47 (by decide) (by omega) (fun q => absurd q (by omega)) (fun _ => ?_)
  refine gm_aload_n d_M_report_50 rfl (by first | exact am_rvR _ | exact am_rvN | assumption) ?_
  refine gm_iload_n d_M_report_51 rfl ?_
  refine gm_iload_n d_M_report_52 rfl ?_
  refine gm_aload_n d_M_report_53 rfl (by first | exact am_rvR _ | exact am_rvN | assumption) ?_
  refine fr_gA 27 d_M_report_54 f_M_77 (by decide) (by decide) ?_
  refine gm_iconst (v := nI 2) d_M_report_57 (by decide) ?_
  refine fr_aldv d_M_report_58 (by decide) rfl (show _ < 5 by omega) (by first | assumption | (simp only [fr_up_at, fr_up_s, fr_sc_at, fr_sc_a, Nat.reduceEqDiff, false_and, if_false, ite_false, reduceCtorEq]; first | assumption | rfl) | rfl) ?_
  refine gm_aload_n d_M_report_59 rfl (by first | exact am_rvR _ | exact am_rvN | assumption) ?_
  refine fr_gA 27 d_M_report_60 f_M_77 (by decide) (by decide) ?_
  refine gm_iconst (v := nI 3) d_M_report_63 (by decide) ?_
  refine fr_aldv d_M_report_64 (by decide) rfl (show _ < 5 by omega) (by first | assumption | (simp only [fr_up_at, fr_up_s, fr_sc_at, fr_sc_a, Nat.reduceEqDiff, false_and, if_false, ite_false, reduceCtorEq]; first | assumption | rfl) | rfl) ?_
  refine gm_aload_n d_M_report_65 rfl (by first | exact am_rvR _ | exact am_rvN | assumption) ?_
  refine fr_gA 27 d_M_report_66 f_M_77 (by decide) (by decide) ?_
  refine gm_iconst (v := nI 4) d_M_report_69 (by decide) ?_
  refine fr_aldv d_M_report_70 (by decide) rfl (show _ < 5 by omega) (by first | assumption | (simp only [fr_up_at, fr_up_s, fr_sc_at, fr_sc_a, Nat.reduceEqDiff, false_and, if_false, ite_false, reduceCtorEq]; first | assumption | rfl) | rfl) ?_
  refine gm_cV (b := A 44) d_M_report_71 v_M_215 (vs := [.int (nI i), .int (nI p), .int (nI f), .int (nI t), .int nr]) (st := []) rfl rfl (by decide) (Nat.le_of_ble_eq_true rfl) (fr_at _) (rf_missed H1 J1 hi hp hf ht nr) ?_
  rintro v r1 ⟨rfl, h9⟩
  refine gm_goto (tgt := 212) d_M_report_74 (by decide) ?_
  refine gm_iload_n d_M_report_212 rfl ?_
  refine gm_iret d_M_report_213 rfl rfl ?_
  exact ⟨rfl, by rw [fc_h0]; exact h9⟩
theorem rf_rp_seen {i n : Nat} {p o : Nat} (hp : p < 4) (ho : o < 4 * ns) {rest : List (List Int32)} (H : fr_rel ns room idle s r) (J : fz_J own W ns room s) (hW : W + 6 < 2 ^ 31) (hi : i < ns) (hr : s (40 + i) = [1, nI p, nI o, -1, 0] :: rest) (hn : n = (s (40 + i)).length) : gm_W (fr_P A) fr_X g y_M_report 6 142 (fun v r' => v = some (.int ([1, nI p, nI o, -1, 0].getD 0 0)) ∧ fr_rel ns room idle (fc_hears ns (fc_del s (40 + i) 0) i [1, nI p, nI o, -1, 0]) r') 32 [some (.ref (A 44)), some (.int (nI i)), none, none, none] [] (fr_take r (2 * i + 1) n) := by
  have D := J.1
  have n5 := D.1.2.1
  have H1 := H.qtake D hi
  have D1 : fc_iD ns room (fc_del s (40 + i) 0) := D.delL 0 (Or.inr ⟨by omega, by omega⟩)
  rw [← hn] at H1
  have J1 : fz_J own W ns room (fc_del s (40 + i) 0) := J.heard hi hr (fun row hrow _ e => absurd (List.cons.inj e).1 (by decide))
  have i0 : (fr_take r (2 * i + 1) n).2 27 0 = nI 1 := H.qitem hi hr n (show 0 < 5 by decide)
  have i1 : (fr_take r (2 * i + 1) n).2 27 1 = nI p := H.qitem hi hr n (show 1 < 5 by decide)
  have i2 : (fr_take r (2 * i + 1) n).2 27 2 = nI o := H.qitem hi hr n (show 2 < 5 by decide)
  refine gm_aload_n d_M_report_32 rfl (by first | exact am_rvR _ | exact am_rvN | assumption) ?_
  refine fr_gA 27 d_M_report_33 f_M_77 (by decide) (by decide) ?_
  refine gm_iconst (v := nI 0) d_M_report_36 (by decide) ?_
  refine fr_aldv d_M_report_37 (by decide) rfl (show _ < 5 by omega) (by first | assumption | (simp only [fr_up_at, fr_up_s, fr_sc_at, fr_sc_a, Nat.reduceEqDiff, false_and, if_false, ite_false, reduceCtorEq]; first | assumption | rfl) | rfl) ?_
  refine gm_istore_n (L1 := [_, _, _, _, _]) d_M_report_38 (by decide) rfl ?_
  refine gm_aload_n d_M_report_39 rfl (by first | exact am_rvR _ | exact am_rvN | assumption) ?_
  refine fr_gA 27 d_M_report_40 f_M_77 (by decide) (by decide) ?_
  refine gm_iconst (v := nI 1) d_M_report_43 (by decide) ?_
  refine fr_aldv d_M_report_44 (by decide) rfl (show _ < 5 by omega) (by first | assumption | (simp only [fr_up_at, fr_up_s, fr_sc_at, fr_sc_a, Nat.reduceEqDiff, false_and, if_false, ite_false, reduceCtorEq]; first | assumption | rfl) | rfl) ?_
  refine gm_istore_n (L1 := [_, _, _, _, _]) d_M_report_45 (by decide) rfl ?_
  refine gm_iload_n d_M_report_46 rfl ?_
  refine gm_if_neN (tgt := 77) d_M_report_47 (by decide) (by omega) (fun _ => ?_) (fun q => absurd q (by omega))
  refine gm_iload_n d_M_report_77 rfl ?_
  refine gm_iconst (v := nI 1) d_M_report_78 (by decide) ?_
  refine gm_icmp_neN (tgt := 100) d_M_report_79 (by decide) (by omega) (by omega) (fun q => absurd q (by omega)) (fun _ => ?_)
  refine gm_aload_n d_M_report_82 rfl (by first | exact am_rvR _ | exact am_rvN | assumption) ?_
  refine gm_iconst (v := nI 4) d_M_report_83 (by decide) ?_
  refine gm_iload_n d_M_report_84 rfl ?_
  first | refine gm_imulN d_M_report_85 ?_ | refine gm_imul d_M_report_85 ?_
  refine gm_iload_n d_M_report_86 rfl ?_
  first | refine gm_iaddN d_M_report_87 ?_ | refine gm_iadd d_M_report_87 ?_
  refine gm_aload_n d_M_report_88 rfl (by first | exact am_rvR _ | exact am_rvN | assumption) ?_
  refine fr_gA 27 d_M_report_89 f_M_77 (by decide) (by decide) ?_
  refine gm_iconst (v := nI 2) d_M_report_92 (by decide) ?_
  refine fr_aldv d_M_report_93 (by decide) rfl (show _ < 5 by omega) (by first | assumption | (simp only [fr_up_at, fr_up_s, fr_sc_at, fr_sc_a, Nat.reduceEqDiff, false_and, if_false, ite_false, reduceCtorEq]; first | assumption | rfl) | rfl) ?_
  refine gm_cV (b := A 44) d_M_report_94 v_M_218 (vs := [.int (nI (4 * i + p)), .int (nI o)]) (st := []) rfl rfl (by decide) (Nat.le_of_ble_eq_true rfl) (fr_at _) (rf_seen H1 J1 hW (show 4 * i + p < 4 * ns by omega) ho) ?_
  rintro v r1 ⟨rfl, h9⟩
  refine gm_goto (tgt := 212) d_M_report_97 (by decide) ?_
  refine gm_iload_n d_M_report_212 rfl ?_
  refine gm_iret d_M_report_213 rfl rfl ?_
  exact ⟨rfl, by rw [fc_h1, nI_clamp (by omega), nI_clamp (by omega)]; exact h9⟩
theorem rf_rp_done {i n : Nat} {wv : Int32} {rest : List (List Int32)} (H : fr_rel ns room idle s r) (J : fz_J own W ns room s) (hW : W + 6 < 2 ^ 31) (hi : i < ns) (hr : s (40 + i) = [2, wv, -1, -1, 0] :: rest) (hn : n = (s (40 + i)).length) : gm_W (fr_P A) fr_X g y_M_report 6 142 (fun v r' => v = some (.int ([2, wv, -1, -1, 0].getD 0 0)) ∧ fr_rel ns room idle (fc_hears ns (fc_del s (40 + i) 0) i [2, wv, -1, -1, 0]) r') 32 [some (.ref (A 44)), some (.int (nI i)), none, none, none] [] (fr_take r (2 * i + 1) n) := by
  have D := J.1
  have n5 := D.1.2.1
  have H1 := H.qtake D hi
  have D1 : fc_iD ns room (fc_del s (40 + i) 0) := D.delL 0 (Or.inr ⟨by omega, by omega⟩)
  rw [← hn] at H1
  have i0 : (fr_take r (2 * i + 1) n).2 27 0 = nI 2 := H.qitem hi hr n (show 0 < 5 by decide)
  have i1 : (fr_take r (2 * i + 1) n).2 27 1 = wv := H.qitem hi hr n (show 1 < 5 by decide)
  refine gm_aload_n d_M_report_32 rfl (by first | exact am_rvR _ | exact am_rvN | assumption) ?_
  refine fr_gA 27 d_M_report_33 f_M_77 (by decide) (by decide) ?_
  refine gm_iconst (v := nI 0) d_M_report_36 (by decide) ?_
  refine fr_aldv d_M_report_37 (by decide) rfl (show _ < 5 by omega) (by first | assumption | (simp only [fr_up_at, fr_up_s, fr_sc_at, fr_sc_a, Nat.reduceEqDiff, false_and, if_false, ite_false, reduceCtorEq]; first | assumption | rfl) | rfl) ?_
  refine gm_istore_n (L1 := [_, _, _, _, _]) d_M_report_38 (by decide) rfl ?_
  refine gm_aload_n d_M_report_39 rfl (by first | exact am_rvR _ | exact am_rvN | assumption) ?_
  refine fr_gA 27 d_M_report_40 f_M_77 (by decide) (by decide) ?_
  refine gm_iconst (v := nI 1) d_M_report_43 (by decide) ?_
  refine fr_aldv d_M_report_44 (by decide) rfl (show _ < 5 by omega) (by first | assumption | (simp only [fr_up_at, fr_up_s, fr_sc_at, fr_sc_a, Nat.reduceEqDiff, false_and, if_false, ite_false, reduceCtorEq]; first | assumption | rfl) | rfl) ?_
  refine gm_istore_n (L1 := [_, _, _, _, _]) d_M_report_45 (by decide) rfl ?_
  refine gm_iload_n d_M_report_46 rfl ?_
  refine gm_if_neN (tgt := 77) d_M_report_47 (by decide) (by omega) (fun _ => ?_) (fun q => absurd q (by omega))
  refine gm_iload_n d_M_report_77 rfl ?_
  refine gm_iconst (v := nI 1) d_M_report_78 (by decide) ?_
  refine gm_icmp_neN (tgt := 100) d_M_report_79 (by decide) (by omega) (by omega) (fun _ => ?_) (fun q => absurd q (by omega))
  refine gm_iload_n d_M_report_100 rfl ?_
  refine gm_iconst (v := nI 2) d_M_report_101 (by decide) ?_
  refine gm_icmp_neN (tgt := 113) d_M_report_102 (by decide) (by omega) (by omega) (fun q => absurd q (by omega)) (fun _ => ?_)
  refine gm_aload_n d_M_report_105 rfl (by first | exact am_rvR _ | exact am_rvN | assumption) ?_
  refine gm_iload_n d_M_report_106 rfl ?_
  refine gm_cV (b := A 44) d_M_report_107 v_M_221 (vs := [.int wv]) (st := []) rfl rfl (by decide) (Nat.le_of_ble_eq_true rfl) (fr_at _) (rf_done H1 J hi hr) ?_
  rintro v r1 ⟨rfl, h9⟩
  refine gm_goto (tgt := 212) d_M_report_110 (by decide) ?_
  refine gm_iload_n d_M_report_212 rfl ?_
  refine gm_iret d_M_report_213 rfl rfl ?_
  exact ⟨rfl, by rw [fc_h2]; exact h9⟩
theorem rf_rp_noroom {i n : Nat} {f t : Nat} (hf : f < 6) (ht : t < 6) {rest : List (List Int32)} (H : fr_rel ns room idle s r) (J : fz_J own W ns room s) (hW : W + 6 < 2 ^ 31) (hi : i < ns) (hr : s (40 + i) = [3, -1, nI f, nI t, 0] :: rest) (hn : n = (s (40 + i)).length) : gm_W (fr_P A) fr_X g y_M_report 6 142 (fun v r' => v = some (.int ([3, -1, nI f, nI t, 0].getD 0 0)) ∧ fr_rel ns room idle (fc_hears ns (fc_del s (40 + i) 0) i [3, -1, nI f, nI t, 0]) r') 32 [some (.ref (A 44)), some (.int (nI i)), none, none, none] [] (fr_take r (2 * i + 1) n) := by
  have D := J.1
  have n5 := D.1.2.1
  have H1 := H.qtake D hi
  have D1 : fc_iD ns room (fc_del s (40 + i) 0) := D.delL 0 (Or.inr ⟨by omega, by omega⟩)
  rw [← hn] at H1
  have J1 : fz_J own W ns room (fc_del s (40 + i) 0) := J.heard hi hr (fun row hrow _ e => absurd (List.cons.inj e).1 (by decide))
  have IK := D1.2.2.2.2.2.2.2.2
  have i0 : (fr_take r (2 * i + 1) n).2 27 0 = nI 3 := H.qitem hi hr n (show 0 < 5 by decide)
  have i1 : (fr_take r (2 * i + 1) n).2 27 1 = nI (6 * f + t) := (H.qitem hi hr n (show 1 < 5 by decide)).trans (fr_pairE f t)
  refine gm_aload_n d_M_report_32 rfl (by first | exact am_rvR _ | exact am_rvN | assumption) ?_
  refine fr_gA 27 d_M_report_33 f_M_77 (by decide) (by decide) ?_
  refine gm_iconst (v := nI 0) d_M_report_36 (by decide) ?_
  refine fr_aldv d_M_report_37 (by decide) rfl (show _ < 5 by omega) (by first | assumption | (simp only [fr_up_at, fr_up_s, fr_sc_at, fr_sc_a, Nat.reduceEqDiff, false_and, if_false, ite_false, reduceCtorEq]; first | assumption | rfl) | rfl) ?_
  refine gm_istore_n (L1 := [_, _, _, _, _]) d_M_report_38 (by decide) rfl ?_
  refine gm_aload_n d_M_report_39 rfl (by first | exact am_rvR _ | exact am_rvN | assumption) ?_
  refine fr_gA 27 d_M_report_40 f_M_77 (by decide) (by decide) ?_
  refine gm_iconst (v := nI 1) d_M_report_43 (by decide) ?_
  refine fr_aldv d_M_report_44 (by decide) rfl (show _ < 5 by omega) (by first | assumption | (simp only [fr_up_at, fr_up_s, fr_sc_at, fr_sc_a, Nat.reduceEqDiff, false_and, if_false, ite_false, reduceCtorEq]; first | assumption | rfl) | rfl) ?_
  refine gm_istore_n (L1 := [_, _, _, _, _]) d_M_report_45 (by decide) rfl ?_
  refine gm_iload_n d_M_report_46 rfl ?_
  refine gm_if_neN (tgt := 77) d_M_report_47 (by decide) (by omega) (fun _ => ?_) (fun q => absurd q (by omega))
  refine gm_iload_n d_M_report_77 rfl ?_
  refine gm_iconst (v := nI 1) d_M_report_78 (by decide) ?_
  refine gm_icmp_neN (tgt := 100) d_M_report_79 (by decide) (by omega) (by omega) (fun _ => ?_) (fun q => absurd q (by omega))
  refine gm_iload_n d_M_report_100 rfl ?_
  refine gm_iconst (v := nI 2) d_M_report_101 (by decide) ?_
  refine gm_icmp_neN (tgt := 113) d_M_report_102 (by decide) (by omega) (by omega) (fun _ => ?_) (fun q => absurd q (by omega))
  refine gm_iload_n d_M_report_113 rfl ?_
  refine gm_iconst (v := nI 5) d_M_report_114 (by decide) ?_
  refine gm_icmp_neN (tgt := 130) d_M_report_115 (by decide) (by omega) (by omega) (fun _ => ?_) (fun q => absurd q (by omega))
  refine gm_aload_n d_M_report_130 rfl (by first | exact am_rvR _ | exact am_rvN | assumption) ?_
  refine gm_iload_n d_M_report_131 rfl ?_
  refine gm_cV (b := A 44) d_M_report_132 v_M_227 (vs := [.int (nI (6 * f + t))]) (st := []) rfl rfl (by decide) (Nat.le_of_ble_eq_true rfl) (fr_at _) (rf_courseOf (n := ((fc_del s (40 + i) 0) 7).length) H1.2.2.2.2.2.2.2.2.2.1 IK.1 (nI (6 * f + t))) ?_
  rintro v r1 ⟨rfl, hr1⟩
  subst hr1
  rw [H1.2.2.2.2.2.2.2.2.find IK hf ht]
  cases hx : fc_cix (fc_del s (40 + i) 0) (nI f) (nI t) with
  | none =>
    rw [show fr_pos none 0 = -1 from rfl]
    refine gm_istore (L1 := [_, _, _, _, _]) d_M_report_135 (by decide) rfl ?_
    refine gm_iload d_M_report_137 rfl ?_
    refine gm_if_lt (tgt := 175) d_M_report_139 (by decide) (fun _ => ?_) (fun q => absurd (by decide) q)
    refine gm_iload d_M_report_175 rfl ?_
    refine gm_if_lt (tgt := 212) d_M_report_177 (by decide) (fun _ => ?_) (fun q => absurd (by decide) q)
    refine gm_iload_n d_M_report_212 rfl ?_
    refine gm_iret d_M_report_213 rfl rfl ?_
    exact ⟨rfl, by rw [fc_h3, fc_noroom_none hx]; exact H1⟩
  | some c =>
    have hc := fc_cix_some hx
    have k6 := IK.1
    rw [show fr_pos (some c) 0 = nI c from congrArg nI (Nat.zero_add c)]
    obtain ⟨f', t', l, st, wv, aw, kp, kn, way, hrw, h1, h2', h4, h5, h6, h7, h8, h9⟩ := IK.row hc
    have e34 : (fr_take r (2 * i + 1) n).2 34 c = st := (H1.2.2.2.2.2.2.2.2.row hrw).2.1
    refine gm_istore (L1 := [_, _, _, _, _]) d_M_report_135 (by decide) rfl ?_
    refine gm_iload d_M_report_137 rfl ?_
    refine gm_if_ltN (tgt := 175) d_M_report_139 (by decide) (by omega) (fun q => absurd q (by omega)) (fun _ => ?_)
    refine gm_iload_n d_M_report_142 rfl ?_
    refine gm_iconst (v := nI 3) d_M_report_143 (by decide) ?_
    refine gm_icmp_neN (tgt := 175) d_M_report_144 (by decide) (by omega) (by omega) (fun q => absurd q (by omega)) (fun _ => ?_)
    refine gm_aload_n d_M_report_147 rfl (by first | exact am_rvR _ | exact am_rvN | assumption) ?_
    refine fr_gA 34 d_M_report_148 f_M_92 (by decide) (by decide) ?_
    refine gm_iload d_M_report_151 rfl ?_
    refine fr_aldv d_M_report_153 (by decide) rfl (show _ < 6 by omega) (by first | assumption | (simp only [fr_up_at, fr_up_s, fr_sc_at, fr_sc_a, Nat.reduceEqDiff, false_and, if_false, ite_false, reduceCtorEq]; first | assumption | rfl) | rfl) ?_
    refine gm_iconst (v := nI 2) d_M_report_154 (by decide) ?_
    first | refine gm_icmp_neN (tgt := 175) d_M_report_155 (by decide) (by omega) (by omega) (fun q155 => ?_) (fun q155 => ?_) | refine gm_icmp_ne (tgt := 175) d_M_report_155 (by decide) (fun q155 => ?_) (fun q155 => ?_)
    · refine gm_iload d_M_report_175 rfl ?_
      refine gm_if_ltN (tgt := 212) d_M_report_177 (by decide) (by omega) (fun q => absurd q (by omega)) (fun _ => ?_)
      refine gm_iload_n d_M_report_180 rfl ?_
      refine gm_iconst (v := nI 4) d_M_report_181 (by decide) ?_
      refine gm_icmp_neN (tgt := 212) d_M_report_182 (by decide) (by omega) (by omega) (fun _ => ?_) (fun q => absurd q (by omega))
      refine gm_iload_n d_M_report_212 rfl ?_
      refine gm_iret d_M_report_213 rfl rfl ?_
      first | (refine ⟨rfl, ?_⟩; rw [fc_h3, fc_noroom_some hx hrw, if_pos (show st = 2 from q155)]; exact H3) | (refine ⟨rfl, ?_⟩; rw [fc_h3, fc_noroom_some hx hrw, if_neg (show ¬ st = 2 from q155)]; exact H1)
    · refine gm_aload_n d_M_report_158 rfl (by first | exact am_rvR _ | exact am_rvN | assumption) ?_
      refine fr_gA 40 d_M_report_159 f_M_110 (by decide) (by decide) ?_
      refine gm_iload d_M_report_162 rfl ?_
      refine gm_iconst (v := nI 0) d_M_report_164 (by decide) ?_
      refine fr_zst d_M_report_165 (by decide) rfl (show _ < 6 by omega) (by first | rfl | exact am_b_nar _) ?_
      have H2 := H1.k1 n5 (q := 40) (x := nI 0) (st' := st) (aw' := aw) (kp' := 0) hrw (IK.w5 c) (Or.inr (Or.inr ⟨rfl, rfl, rfl, rfl⟩))
      have J2 := J1.keep (kp' := 0) (kn' := kn) hrw (Or.inl rfl)
      refine gm_aload_n d_M_report_166 rfl (by first | exact am_rvR _ | exact am_rvN | assumption) ?_
      refine gm_iload d_M_report_167 rfl ?_
      refine gm_cV (b := A 44) d_M_report_169 v_M_231 (vs := [.int (nI c)]) (st := []) rfl rfl (by decide) (Nat.le_of_ble_eq_true rfl) (fr_at _) (rf_clearK H2 J2 (by first | exact hc | (rw [fc_up_same, List.length_set]; exact hc))) ?_
      rintro v r3 ⟨rfl, H3⟩
      refine gm_goto (tgt := 212) d_M_report_172 (by decide) ?_
      refine gm_iload_n d_M_report_212 rfl ?_
      refine gm_iret d_M_report_213 rfl rfl ?_
      first | (refine ⟨rfl, ?_⟩; rw [fc_h3, fc_noroom_some hx hrw, if_pos (show st = 2 from q155)]; exact H3) | (refine ⟨rfl, ?_⟩; rw [fc_h3, fc_noroom_some hx hrw, if_neg (show ¬ st = 2 from q155)]; exact H1)
theorem rf_rp_gone {i n : Nat} {f t : Nat} (hf : f < 6) (ht : t < 6) {rest : List (List Int32)} (H : fr_rel ns room idle s r) (J : fz_J own W ns room s) (hW : W + 6 < 2 ^ 31) (hi : i < ns) (hr : s (40 + i) = [4, -1, nI f, nI t, 0] :: rest) (hn : n = (s (40 + i)).length) : gm_W (fr_P A) fr_X g y_M_report 6 142 (fun v r' => v = some (.int ([4, -1, nI f, nI t, 0].getD 0 0)) ∧ fr_rel ns room idle (fc_hears ns (fc_del s (40 + i) 0) i [4, -1, nI f, nI t, 0]) r') 32 [some (.ref (A 44)), some (.int (nI i)), none, none, none] [] (fr_take r (2 * i + 1) n) := by
  have D := J.1
  have n5 := D.1.2.1
  have H1 := H.qtake D hi
  have D1 : fc_iD ns room (fc_del s (40 + i) 0) := D.delL 0 (Or.inr ⟨by omega, by omega⟩)
  rw [← hn] at H1
  have J1 : fz_J own W ns room (fc_del s (40 + i) 0) := J.heard hi hr (fun row hrow _ e => absurd (List.cons.inj e).1 (by decide))
  have IK := D1.2.2.2.2.2.2.2.2
  have i0 : (fr_take r (2 * i + 1) n).2 27 0 = nI 4 := H.qitem hi hr n (show 0 < 5 by decide)
  have i1 : (fr_take r (2 * i + 1) n).2 27 1 = nI (6 * f + t) := (H.qitem hi hr n (show 1 < 5 by decide)).trans (fr_pairE f t)
  refine gm_aload_n d_M_report_32 rfl (by first | exact am_rvR _ | exact am_rvN | assumption) ?_
  refine fr_gA 27 d_M_report_33 f_M_77 (by decide) (by decide) ?_
  refine gm_iconst (v := nI 0) d_M_report_36 (by decide) ?_
  refine fr_aldv d_M_report_37 (by decide) rfl (show _ < 5 by omega) (by first | assumption | (simp only [fr_up_at, fr_up_s, fr_sc_at, fr_sc_a, Nat.reduceEqDiff, false_and, if_false, ite_false, reduceCtorEq]; first | assumption | rfl) | rfl) ?_
  refine gm_istore_n (L1 := [_, _, _, _, _]) d_M_report_38 (by decide) rfl ?_
  refine gm_aload_n d_M_report_39 rfl (by first | exact am_rvR _ | exact am_rvN | assumption) ?_
  refine fr_gA 27 d_M_report_40 f_M_77 (by decide) (by decide) ?_
  refine gm_iconst (v := nI 1) d_M_report_43 (by decide) ?_
  refine fr_aldv d_M_report_44 (by decide) rfl (show _ < 5 by omega) (by first | assumption | (simp only [fr_up_at, fr_up_s, fr_sc_at, fr_sc_a, Nat.reduceEqDiff, false_and, if_false, ite_false, reduceCtorEq]; first | assumption | rfl) | rfl) ?_
  refine gm_istore_n (L1 := [_, _, _, _, _]) d_M_report_45 (by decide) rfl ?_
  refine gm_iload_n d_M_report_46 rfl ?_
  refine gm_if_neN (tgt := 77) d_M_report_47 (by decide) (by omega) (fun _ => ?_) (fun q => absurd q (by omega))
  refine gm_iload_n d_M_report_77 rfl ?_
  refine gm_iconst (v := nI 1) d_M_report_78 (by decide) ?_
  refine gm_icmp_neN (tgt := 100) d_M_report_79 (by decide) (by omega) (by omega) (fun _ => ?_) (fun q => absurd q (by omega))
  refine gm_iload_n d_M_report_100 rfl ?_
  refine gm_iconst (v := nI 2) d_M_report_101 (by decide) ?_
  refine gm_icmp_neN (tgt := 113) d_M_report_102 (by decide) (by omega) (by omega) (fun _ => ?_) (fun q => absurd q (by omega))
  refine gm_iload_n d_M_report_113 rfl ?_
  refine gm_iconst (v := nI 5) d_M_report_114 (by decide) ?_
  refine gm_icmp_neN (tgt := 130) d_M_report_115 (by decide) (by omega) (by omega) (fun _ => ?_) (fun q => absurd q (by omega))
  refine gm_aload_n d_M_report_130 rfl (by first | exact am_rvR _ | exact am_rvN | assumption) ?_
  refine gm_iload_n d_M_report_131 rfl ?_
  refine gm_cV (b := A 44) d_M_report_132 v_M_227 (vs := [.int (nI (6 * f + t))]) (st := []) rfl rfl (by decide) (Nat.le_of_ble_eq_true rfl) (fr_at _) (rf_courseOf (n := ((fc_del s (40 + i) 0) 7).length) H1.2.2.2.2.2.2.2.2.2.1 IK.1 (nI (6 * f + t))) ?_
  rintro v r1 ⟨rfl, hr1⟩
  subst hr1
  rw [H1.2.2.2.2.2.2.2.2.find IK hf ht]
  cases hx : fc_cix (fc_del s (40 + i) 0) (nI f) (nI t) with
  | none =>
    rw [show fr_pos none 0 = -1 from rfl]
    refine gm_istore (L1 := [_, _, _, _, _]) d_M_report_135 (by decide) rfl ?_
    refine gm_iload d_M_report_137 rfl ?_
    refine gm_if_lt (tgt := 175) d_M_report_139 (by decide) (fun _ => ?_) (fun q => absurd (by decide) q)
    refine gm_iload d_M_report_175 rfl ?_
    refine gm_if_lt (tgt := 212) d_M_report_177 (by decide) (fun _ => ?_) (fun q => absurd (by decide) q)
    refine gm_iload_n d_M_report_212 rfl ?_
    refine gm_iret d_M_report_213 rfl rfl ?_
    exact ⟨rfl, by rw [fc_h4, fc_off_none hx]; exact H1⟩
  | some c =>
    have hc := fc_cix_some hx
    have k6 := IK.1
    rw [show fr_pos (some c) 0 = nI c from congrArg nI (Nat.zero_add c)]
    obtain ⟨f', t', l, st, wv, aw, kp, kn, way, hrw, h1, h2', h4, h5, h6, h7, h8, h9⟩ := IK.row hc
    have e34 : (fr_take r (2 * i + 1) n).2 34 c = st := (H1.2.2.2.2.2.2.2.2.row hrw).2.1
    refine gm_istore (L1 := [_, _, _, _, _]) d_M_report_135 (by decide) rfl ?_
    refine gm_iload d_M_report_137 rfl ?_
    refine gm_if_ltN (tgt := 175) d_M_report_139 (by decide) (by omega) (fun q => absurd q (by omega)) (fun _ => ?_)
    refine gm_iload_n d_M_report_142 rfl ?_
    refine gm_iconst (v := nI 3) d_M_report_143 (by decide) ?_
    refine gm_icmp_neN (tgt := 175) d_M_report_144 (by decide) (by omega) (by omega) (fun _ => ?_) (fun q => absurd q (by omega))
    refine gm_iload d_M_report_175 rfl ?_
    refine gm_if_ltN (tgt := 212) d_M_report_177 (by decide) (by omega) (fun q => absurd q (by omega)) (fun _ => ?_)
    refine gm_iload_n d_M_report_180 rfl ?_
    refine gm_iconst (v := nI 4) d_M_report_181 (by decide) ?_
    refine gm_icmp_neN (tgt := 212) d_M_report_182 (by decide) (by omega) (by omega) (fun q => absurd q (by omega)) (fun _ => ?_)
    refine gm_aload_n d_M_report_185 rfl (by first | exact am_rvR _ | exact am_rvN | assumption) ?_
    refine fr_gA 34 d_M_report_186 f_M_92 (by decide) (by decide) ?_
    refine gm_iload d_M_report_189 rfl ?_
    refine fr_aldv d_M_report_191 (by decide) rfl (show _ < 6 by omega) (by first | assumption | (simp only [fr_up_at, fr_up_s, fr_sc_at, fr_sc_a, Nat.reduceEqDiff, false_and, if_false, ite_false, reduceCtorEq]; first | assumption | rfl) | rfl) ?_
    refine gm_iconst (v := nI 1) d_M_report_192 (by decide) ?_
    first | refine gm_icmp_eqN (tgt := 212) d_M_report_193 (by decide) (by omega) (by omega) (fun q193 => ?_) (fun q193 => ?_) | refine gm_icmp_eq (tgt := 212) d_M_report_193 (by decide) (fun q193 => ?_) (fun q193 => ?_)
    · refine gm_iload_n d_M_report_212 rfl ?_
      refine gm_iret d_M_report_213 rfl rfl ?_
      first | (refine ⟨rfl, ?_⟩; rw [fc_h4, fc_off_some hx hrw h4, if_pos (show ¬ st = 1 ∧ way.any (fun e => e.toNatClampNeg / 4 == i) = true from ⟨q193, q203⟩)]; exact H3) | (refine ⟨rfl, ?_⟩; rw [fc_h4, fc_off_some hx hrw h4, if_neg (show ¬ (¬ st = 1 ∧ way.any (fun e => e.toNatClampNeg / 4 == i) = true) from fun z => z.1 q193)]; exact H1) | (refine ⟨rfl, ?_⟩; rw [fc_h4, fc_off_some hx hrw h4, if_neg (show ¬ (¬ st = 1 ∧ way.any (fun e => e.toNatClampNeg / 4 == i) = true) from fun z => Bool.false_ne_true (q203.symm.trans z.2))]; exact H1)
    · refine gm_aload_n d_M_report_196 rfl (by first | exact am_rvR _ | exact am_rvN | assumption) ?_
      refine gm_iload d_M_report_197 rfl ?_
      refine gm_iload_n d_M_report_199 rfl ?_
      refine gm_cV (b := A 44) d_M_report_200 v_M_234 (vs := [.int (nI c), .int (nI i)]) (st := []) rfl rfl (by decide) (Nat.le_of_ble_eq_true rfl) (fr_at _) (rf_passes H1 n5 (by omega) (by omega) hrw h7 h9) ?_
      rintro v r2 ⟨rfl, hr2⟩
      subst hr2
      first | refine gm_if_eqB (tgt := 212) d_M_report_203 (by decide) (fun q203 => ?_) (fun q203 => ?_) | refine gm_if_eqN (tgt := 212) d_M_report_203 (by decide) (by omega) (fun q203 => ?_) (fun q203 => ?_) | refine gm_if_eq (tgt := 212) d_M_report_203 (by decide) (fun q203 => ?_) (fun q203 => ?_)
      · refine gm_iload_n d_M_report_212 rfl ?_
        refine gm_iret d_M_report_213 rfl rfl ?_
        first | (refine ⟨rfl, ?_⟩; rw [fc_h4, fc_off_some hx hrw h4, if_pos (show ¬ st = 1 ∧ way.any (fun e => e.toNatClampNeg / 4 == i) = true from ⟨q193, q203⟩)]; exact H3) | (refine ⟨rfl, ?_⟩; rw [fc_h4, fc_off_some hx hrw h4, if_neg (show ¬ (¬ st = 1 ∧ way.any (fun e => e.toNatClampNeg / 4 == i) = true) from fun z => z.1 q193)]; exact H1) | (refine ⟨rfl, ?_⟩; rw [fc_h4, fc_off_some hx hrw h4, if_neg (show ¬ (¬ st = 1 ∧ way.any (fun e => e.toNatClampNeg / 4 == i) = true) from fun z => Bool.false_ne_true (q203.symm.trans z.2))]; exact H1)
      · refine gm_aload_n d_M_report_206 rfl (by first | exact am_rvR _ | exact am_rvN | assumption) ?_
        refine gm_iload d_M_report_207 rfl ?_
        refine gm_cV (b := A 44) d_M_report_209 v_M_231 (vs := [.int (nI c)]) (st := []) rfl rfl (by decide) (Nat.le_of_ble_eq_true rfl) (fr_at _) (rf_clearK H1 J1 (by first | exact hc | (rw [fc_up_same, List.length_set]; exact hc))) ?_
        rintro v r3 ⟨rfl, H3⟩
        refine gm_iload_n d_M_report_212 rfl ?_
        refine gm_iret d_M_report_213 rfl rfl ?_
        first | (refine ⟨rfl, ?_⟩; rw [fc_h4, fc_off_some hx hrw h4, if_pos (show ¬ st = 1 ∧ way.any (fun e => e.toNatClampNeg / 4 == i) = true from ⟨q193, q203⟩)]; exact H3) | (refine ⟨rfl, ?_⟩; rw [fc_h4, fc_off_some hx hrw h4, if_neg (show ¬ (¬ st = 1 ∧ way.any (fun e => e.toNatClampNeg / 4 == i) = true) from fun z => z.1 q193)]; exact H1) | (refine ⟨rfl, ?_⟩; rw [fc_h4, fc_off_some hx hrw h4, if_neg (show ¬ (¬ st = 1 ∧ way.any (fun e => e.toNatClampNeg / 4 == i) = true) from fun z => Bool.false_ne_true (q203.symm.trans z.2))]; exact H1)
theorem rf_rp_down {i n : Nat} {p : Nat} (hp : p < 4) {rest : List (List Int32)} (H : fr_rel ns room idle s r) (J : fz_J own W ns room s) (hW : W + 6 < 2 ^ 31) (hi : i < ns) (hr : s (40 + i) = [5, nI p, -1, -1, 0] :: rest) (hn : n = (s (40 + i)).length) : gm_W (fr_P A) fr_X g y_M_report 6 142 (fun v r' => v = some (.int ([5, nI p, -1, -1, 0].getD 0 0)) ∧ fr_rel ns room idle (fc_hears ns (fc_del s (40 + i) 0) i [5, nI p, -1, -1, 0]) r') 32 [some (.ref (A 44)), some (.int (nI i)), none, none, none] [] (fr_take r (2 * i + 1) n) := by
  have D := J.1
  have n5 := D.1.2.1
  have H1 := H.qtake D hi
  have D1 : fc_iD ns room (fc_del s (40 + i) 0) := D.delL 0 (Or.inr ⟨by omega, by omega⟩)
  rw [← hn] at H1
  have J1 : fz_J own W ns room (fc_del s (40 + i) 0) := J.heard hi hr (fun row hrow _ e => absurd (List.cons.inj e).1 (by decide))
  have i0 : (fr_take r (2 * i + 1) n).2 27 0 = nI 5 := H.qitem hi hr n (show 0 < 5 by decide)
  have i1 : (fr_take r (2 * i + 1) n).2 27 1 = nI p := H.qitem hi hr n (show 1 < 5 by decide)
  refine gm_aload_n d_M_report_32 rfl (by first | exact am_rvR _ | exact am_rvN | assumption) ?_
  refine fr_gA 27 d_M_report_33 f_M_77 (by decide) (by decide) ?_
  refine gm_iconst (v := nI 0) d_M_report_36 (by decide) ?_
  refine fr_aldv d_M_report_37 (by decide) rfl (show _ < 5 by omega) (by first | assumption | (simp only [fr_up_at, fr_up_s, fr_sc_at, fr_sc_a, Nat.reduceEqDiff, false_and, if_false, ite_false, reduceCtorEq]; first | assumption | rfl) | rfl) ?_
  refine gm_istore_n (L1 := [_, _, _, _, _]) d_M_report_38 (by decide) rfl ?_
  refine gm_aload_n d_M_report_39 rfl (by first | exact am_rvR _ | exact am_rvN | assumption) ?_
  refine fr_gA 27 d_M_report_40 f_M_77 (by decide) (by decide) ?_
  refine gm_iconst (v := nI 1) d_M_report_43 (by decide) ?_
  refine fr_aldv d_M_report_44 (by decide) rfl (show _ < 5 by omega) (by first | assumption | (simp only [fr_up_at, fr_up_s, fr_sc_at, fr_sc_a, Nat.reduceEqDiff, false_and, if_false, ite_false, reduceCtorEq]; first | assumption | rfl) | rfl) ?_
  refine gm_istore_n (L1 := [_, _, _, _, _]) d_M_report_45 (by decide) rfl ?_
  refine gm_iload_n d_M_report_46 rfl ?_
  refine gm_if_neN (tgt := 77) d_M_report_47 (by decide) (by omega) (fun _ => ?_) (fun q => absurd q (by omega))
  refine gm_iload_n d_M_report_77 rfl ?_
  refine gm_iconst (v := nI 1) d_M_report_78 (by decide) ?_
  refine gm_icmp_neN (tgt := 100) d_M_report_79 (by decide) (by omega) (by omega) (fun _ => ?_) (fun q => absurd q (by omega))
  refine gm_iload_n d_M_report_100 rfl ?_
  refine gm_iconst (v := nI 2) d_M_report_101 (by decide) ?_
  refine gm_icmp_neN (tgt := 113) d_M_report_102 (by decide) (by omega) (by omega) (fun _ => ?_) (fun q => absurd q (by omega))
  refine gm_iload_n d_M_report_113 rfl ?_
  refine gm_iconst (v := nI 5) d_M_report_114 (by decide) ?_
  refine gm_icmp_neN (tgt := 130) d_M_report_115 (by decide) (by omega) (by omega) (fun q => absurd q (by omega)) (fun _ => ?_)
  refine gm_aload_n d_M_report_118 rfl (by first | exact am_rvR _ | exact am_rvN | assumption) ?_
  refine gm_iconst (v := nI 4) d_M_report_119 (by decide) ?_
  refine gm_iload_n d_M_report_120 rfl ?_
  first | refine gm_imulN d_M_report_121 ?_ | refine gm_imul d_M_report_121 ?_
  refine gm_iload_n d_M_report_122 rfl ?_
  first | refine gm_iaddN d_M_report_123 ?_ | refine gm_iadd d_M_report_123 ?_
  refine gm_cV (b := A 44) d_M_report_124 v_M_224 (vs := [.int (nI (4 * i + p))]) (st := []) rfl rfl (by decide) (Nat.le_of_ble_eq_true rfl) (fr_at _) (rf_down H1 J1 hW (show 4 * i + p < 4 * ns by omega)) ?_
  rintro v r1 ⟨rfl, h9⟩
  refine gm_goto (tgt := 212) d_M_report_127 (by decide) ?_
  refine gm_iload_n d_M_report_212 rfl ?_
  refine gm_iret d_M_report_213 rfl rfl ?_
  exact ⟨rfl, by rw [fc_h5, nI_clamp (by omega)]; exact h9⟩
theorem rf_report (H : fr_rel ns room idle s r) (J : fz_J own W ns room s) (hW : W + 6 < 2 ^ 31) (x : Int32) : gm_M (fr_P A) fr_X g y_M_report "(I)I" 6 142 [.ref (A 44), .int x] (fun v r' => v = some (.int ((fc_report ns s x).1)) ∧ fr_rel ns room idle (fc_report ns s x).2 r') r := by
  have D := J.1
  have n5 := D.1.2.1
  refine gm_Mof (L0 := [some (.ref (A 44)), some (.int x), none, none, none]) pl_M_report (am_k1 rfl (am_k1 rfl am_k0)) (Nat.le_of_ble_eq_true rfl) rfl ?_
  refine gm_aload_n d_M_report_0 rfl (by first | exact am_rvR _ | exact am_rvN | assumption) ?_
  refine gm_iload_n d_M_report_1 rfl ?_
  refine gm_cV (b := A 44) d_M_report_2 v_M_133 (vs := [.int x]) (st := []) rfl rfl (by decide) (Nat.le_of_ble_eq_true rfl) (fr_at _) (rf_isSwitch H.1.1 x) ?_
  rintro v r1 ⟨rfl, hr1⟩
  subst r1
  first | refine gm_if_eqB (tgt := 21) d_M_report_5 (by decide) (fun q5 => ?_) (fun q5 => ?_) | refine gm_if_eqN (tgt := 21) d_M_report_5 (by decide) (by omega) (fun q5 => ?_) (fun q5 => ?_) | refine gm_if_eq (tgt := 21) d_M_report_5 (by decide) (fun q5 => ?_) (fun q5 => ?_)
  · refine gm_iconst (v := (-1)) d_M_report_21 (by decide) ?_
    refine gm_iret d_M_report_22 rfl rfl ?_
    first | (refine ⟨?_, ?_⟩; (focus (rw [fc_report_no q5]; try rfl)); (focus (rw [fc_report_no q5]; exact H))) | (refine ⟨?_, ?_⟩; (focus (rw [fc_report_nil n5 hi q5 q18]; try rfl)); (focus (rw [fc_report_nil n5 hi q5 q18]; exact H)))
  · obtain ⟨i, hi, rfl⟩ := fc_sw_nat n5 q5
    have h25 : r.2 25 (2 * i + 1) = nI (s (40 + i)).length := H.nq hi
    have l59 := D.q59 hi
    refine gm_aload_n d_M_report_8 rfl (by first | exact am_rvR _ | exact am_rvN | assumption) ?_
    refine fr_gA 25 d_M_report_9 f_M_71 (by decide) (by decide) ?_
    refine gm_iconst (v := nI 2) d_M_report_12 (by decide) ?_
    refine gm_iload_n d_M_report_13 rfl ?_
    first | refine gm_imulN d_M_report_14 ?_ | refine gm_imul d_M_report_14 ?_
    refine gm_iconst (v := nI 1) d_M_report_15 (by decide) ?_
    first | refine gm_iaddN d_M_report_16 ?_ | refine gm_iadd d_M_report_16 ?_
    refine fr_aldv d_M_report_17 (by decide) rfl (show _ < 10 by omega) (by first | assumption | (simp only [fr_up_at, fr_up_s, fr_sc_at, fr_sc_a, Nat.reduceEqDiff, false_and, if_false, ite_false, reduceCtorEq]; first | assumption | rfl) | rfl) ?_
    first | refine gm_if_neB (tgt := 23) d_M_report_18 (by decide) (fun q18 => ?_) (fun q18 => ?_) | refine gm_if_neN (tgt := 23) d_M_report_18 (by decide) (by omega) (fun q18 => ?_) (fun q18 => ?_) | refine gm_if_ne (tgt := 23) d_M_report_18 (by decide) (fun q18 => ?_) (fun q18 => ?_)
    · refine gm_aload_n d_M_report_23 rfl (by first | exact am_rvR _ | exact am_rvN | assumption) ?_
      refine gm_iconst (v := nI 2) d_M_report_24 (by decide) ?_
      refine gm_iload_n d_M_report_25 rfl ?_
      first | refine gm_imulN d_M_report_26 ?_ | refine gm_imul d_M_report_26 ?_
      refine gm_iconst (v := nI 1) d_M_report_27 (by decide) ?_
      first | refine gm_iaddN d_M_report_28 ?_ | refine gm_iadd d_M_report_28 ?_
      refine gm_cV (b := A 44) d_M_report_29 v_M_186 (vs := [.int (nI (2 * i + 1))]) (st := []) rfl rfl (by decide) (Nat.le_of_ble_eq_true rfl) (fr_at _) (rf_take (by omega) h25 (by omega) (by omega)) ?_
      rintro v r1 ⟨rfl, hr1⟩
      subst hr1
      obtain ⟨row, rest, hr⟩ : ∃ row rest, s (40 + i) = row :: rest := by
        cases hs : s (40 + i) with
        | nil => rw [hs] at q18; exact absurd rfl q18
        | cons a b => exact ⟨a, b, rfl⟩
      have hok := (D.2.2.2.2.2.2.1 i hi).2.2 row (by rw [hr]; exact List.mem_cons_self ..)
      obtain ⟨n, hn⟩ : ∃ n, n = (s (40 + i)).length := ⟨_, rfl⟩
      rw [← hn]
      rcases hok with ⟨p, f, t, nr, hp, hf, ht, rfl⟩ | ⟨p, o, hp, ho, rfl⟩ | ⟨wv, rfl⟩ | ⟨f, t, hf, ht, rfl⟩ | ⟨f, t, hf, ht, rfl⟩ | ⟨p, hp, rfl⟩
      · refine gm_post (fun v r1 hv => ?_) (rf_rp_miss hp hf ht H J hW hi hr hn)
        rw [fc_report_1 n5 hi q5 hr, fc_report_2 n5 hi q5 hr]
        exact hv
      · refine gm_post (fun v r1 hv => ?_) (rf_rp_seen hp ho H J hW hi hr hn)
        rw [fc_report_1 n5 hi q5 hr, fc_report_2 n5 hi q5 hr]
        exact hv
      · refine gm_post (fun v r1 hv => ?_) (rf_rp_done  H J hW hi hr hn)
        rw [fc_report_1 n5 hi q5 hr, fc_report_2 n5 hi q5 hr]
        exact hv
      · refine gm_post (fun v r1 hv => ?_) (rf_rp_noroom hf ht H J hW hi hr hn)
        rw [fc_report_1 n5 hi q5 hr, fc_report_2 n5 hi q5 hr]
        exact hv
      · refine gm_post (fun v r1 hv => ?_) (rf_rp_gone hf ht H J hW hi hr hn)
        rw [fc_report_1 n5 hi q5 hr, fc_report_2 n5 hi q5 hr]
        exact hv
      · refine gm_post (fun v r1 hv => ?_) (rf_rp_down hp H J hW hi hr hn)
        rw [fc_report_1 n5 hi q5 hr, fc_report_2 n5 hi q5 hr]
        exact hv
    · refine gm_iconst (v := (-1)) d_M_report_21 (by decide) ?_
      refine gm_iret d_M_report_22 rfl rfl ?_
      first | (refine ⟨?_, ?_⟩; (focus (rw [fc_report_no q5]; try rfl)); (focus (rw [fc_report_no q5]; exact H))) | (refine ⟨?_, ?_⟩; (focus (rw [fc_report_nil n5 hi q5 q18]; try rfl)); (focus (rw [fc_report_nil n5 hi q5 q18]; exact H)))
end REV
