/-! the class: links are seen -/
section CTG
variable {g : am_G} {e nw ns room idle : Nat} {A : Nat → Nat} {s : cl_S} {S : am_S}
theorem ct_seen2 (hn : ns ≤ 5) (he : am_gE g e) (hS : cl_P e nw ns room idle A s S) (I : fc_iK ns s.1) (Io : fc_iO ns s.1) {q o : Nat} {post : Option Value → am_S → Prop} (hlen0 : ∀ i, i < ns → (fc_hurt s.1 (fun w => w.getLast? == some (nI q) || w.getLast? == some (nI o)) (s.1 7).length (30 + i)).length ≤ 59) (hp : ∀ S', cl_Q e nw ns room idle A s S (fc_hurt s.1 (fun w => w.getLast? == some (nI q) || w.getLast? == some (nI o)) (s.1 7).length) 72 5460 S' → post none S') : am_W g y_Ct_handleSeen 8 179 post 71 [some (.ref (A 2)), some (.int (nI q)), some (.int (nI o)), some (.int (nI 0)), none, none] [] S := by
  obtain ⟨s0, hs0⟩ : ∃ s0 : cl_S, s0 = s := ⟨s, rfl⟩
  have I0 : fc_iK ns s0.1 := by rw [hs0]; exact I
  have Io0 : fc_iO ns s0.1 := by rw [hs0]; exact Io
  have hlen : ∀ i, i < ns → (fc_hurt s0.1 (fun w => w.getLast? == some (nI q) || w.getLast? == some (nI o)) (s0.1 7).length (30 + i)).length ≤ 59 := by rw [hs0]; exact hlen0
  have key : ∀ (m k : Nat) (s1 : cl_S) (S1 : am_S) (o4 o5 : Option Value), k + m = (s0.1 7).length → s1.1 = fc_hurt s0.1 (fun w => w.getLast? == some (nI q) || w.getLast? == some (nI o)) k → s1.2.2.1 ≤ s.2.2.1 + 12 * k → s1.2.2.2 ≤ s.2.2.2 + 910 * k → cl_P e nw ns room idle A s1 S1 → am_fr cl_X S S1 → am_W g y_Ct_handleSeen 8 179 (fun v S' => post v S') 71 [some (.ref (A 2)), some (.int (nI q)), some (.int (nI o)), some (.int (nI k)), o4, o5] [] S1 := by
    intro m
    induction m with
    | zero =>
      intro k s1 S1 o4 o5 hk e1 b1 b2 hS1 hf1
      obtain ⟨J, Jo, hl, hj⟩ := fc_hurt_ok I0 Io0 (fun w => w.getLast? == some (nI q) || w.getLast? == some (nI o)) k (by omega)
      rw [← e1] at J Jo hl hj
      have h6 := J.1
      have hL : cl_isL ns 7 := Or.inl rfl
      have ek : k = (s0.1 7).length := by omega
      refine am_iload_n d_Ct_handleSeen_71 rfl ?_
      refine am_aload_n d_Ct_handleSeen_72 rfl (by first | exact am_rvR _ | exact am_rvN | assumption) ?_
      refine am_get d_Ct_handleSeen_73 f_Ct_29 (cl_ctl hS1) (by rfl) ?_
      refine am_cV (b := A 7) d_Ct_handleSeen_76 v_Ct_123 (vs := []) (st := [.int (nI k)]) rfl rfl (by decide) (Nat.le_of_ble_eq_true rfl) (cl_list hS1 hL).1.choose_spec.choose_spec.choose_spec.choose_spec.1 (cl_size hS1 hL) ?_
      rintro v S1 ⟨rfl, rfl⟩
      refine am_icmp_geN (tgt := 145) d_Ct_handleSeen_79 (by decide) (by omega) (by omega) (fun _ => ?_) (fun q => absurd q (by omega))
      refine am_vret d_Ct_handleSeen_145 rfl ?_
      refine hp _ ⟨s1, ?_, ⟨by have := I0.1; omega, by have := I0.1; omega⟩, hS1, hf1⟩
      rw [e1, ek, hs0]
    | succ m ih =>
      intro k s1 S1 o4 o5 hk e1 b1 b2 hS1 hf1
      obtain ⟨J, Jo, hl, hj⟩ := fc_hurt_ok I0 Io0 (fun w => w.getLast? == some (nI q) || w.getLast? == some (nI o)) k (by omega)
      rw [← e1] at J Jo hl hj
      have h6 := J.1
      have hL : cl_isL ns 7 := Or.inl rfl
      obtain ⟨a, w, f, t, l, kv, st, wv, aw, kp, kn, way, ha, hr, ho, hw, hkv, hf6, ht6, hst, hkp, hw1, hw5, hlw, hway⟩ := cl_cr hS1 J (k := k) (by omega)
      have hr0 : (s0.1 7)[k]? = some ([nI f, nI t, st, wv, aw, nI l, kp, kn] ++ way) := by rw [← hj k (Nat.le_refl _)]; exact hr
      have ho0 : S1.1 a = some (73, .inr (am_cCo, [.int (nI f), .int (nI t), .int st, .ref w, kv, .int wv, .int aw, .int (nI l)])) := ho
      have es := fc_hurt_s s0.1 (fun w => w.getLast? == some (nI q) || w.getLast? == some (nI o)) k
      rw [fc_way_row hr0, fc_get_row hr0, ← e1, show ([nI f, nI t, st, wv, aw, nI l, kp, kn] ++ way).getD 2 0 = st from rfl] at es
      refine am_iload_n d_Ct_handleSeen_71 rfl ?_
      refine am_aload_n d_Ct_handleSeen_72 rfl (by first | exact am_rvR _ | exact am_rvN | assumption) ?_
      refine am_get d_Ct_handleSeen_73 f_Ct_29 (cl_ctl hS1) (by rfl) ?_
      refine am_cV (b := A 7) d_Ct_handleSeen_76 v_Ct_123 (vs := []) (st := [.int (nI k)]) rfl rfl (by decide) (Nat.le_of_ble_eq_true rfl) (cl_list hS1 hL).1.choose_spec.choose_spec.choose_spec.choose_spec.1 (cl_size hS1 hL) ?_
      rintro v S1 ⟨rfl, rfl⟩
      refine am_icmp_geN (tgt := 145) d_Ct_handleSeen_79 (by decide) (by omega) (by omega) (fun q => absurd q (by omega)) (fun _ => ?_)
      refine am_aload_n d_Ct_handleSeen_82 rfl (by first | exact am_rvR _ | exact am_rvN | assumption) ?_
      refine am_get d_Ct_handleSeen_83 f_Ct_29 (cl_ctl hS1) (by rfl) ?_
      refine am_iload_n d_Ct_handleSeen_86 rfl ?_
      refine am_cV (b := A 7) d_Ct_handleSeen_87 v_Ct_148 (vs := [.int (nI k)]) (st := []) rfl rfl (by decide) (Nat.le_of_ble_eq_true rfl) (cl_list hS1 hL).1.choose_spec.choose_spec.choose_spec.choose_spec.1 (cl_getM hS1 hL ha) ?_
      rintro v S1 ⟨rfl, rfl⟩
      refine am_cast d_Ct_handleSeen_90 k_Ct_99 (q := am_qCo) rfl (Or.inl rfl) ho0 ?_
      refine am_astore (L1 := [_, _, _, _, _, _]) d_Ct_handleSeen_93 (by decide) (by first | exact am_rvR _ | exact am_rvN | assumption) rfl ?_
      refine am_aload d_Ct_handleSeen_95 rfl (by first | exact am_rvR _ | exact am_rvN | assumption) ?_
      refine am_iload_n d_Ct_handleSeen_97 rfl ?_
      refine am_cV (b := a) d_Ct_handleSeen_98 v_Ct_152 (vs := [.int (nI q)]) (st := []) rfl rfl (by decide) (Nat.le_of_ble_eq_true rfl) ho0 (co_ends ho hw hw5 _) ?_
      rintro v S2 ⟨rfl, rfl⟩
      first | refine am_if_neB (tgt := 113) d_Ct_handleSeen_101 (by decide) (fun q1 => ?_) (fun q1 => ?_) | refine am_if_neN (tgt := 113) d_Ct_handleSeen_101 (by decide) (by omega) (fun q1 => ?_) (fun q1 => ?_) | refine am_if_ne (tgt := 113) d_Ct_handleSeen_101 (by decide) (fun q1 => ?_) (fun q1 => ?_)
      · refine am_iconst (v := nI 1) d_Ct_handleSeen_113 (by decide) ?_
        refine am_goto (tgt := 118) d_Ct_handleSeen_114 (by decide) ?_
        refine am_istore (L1 := [_, _, _, _, _, _]) d_Ct_handleSeen_118 (by decide) rfl ?_
        refine am_iload d_Ct_handleSeen_120 rfl ?_
        refine am_if_eqN (tgt := 139) d_Ct_handleSeen_122 (by decide) (by omega) (fun q => absurd q (by omega)) (fun _ => ?_)
        refine am_aload d_Ct_handleSeen_125 rfl (by first | exact am_rvR _ | exact am_rvN | assumption) ?_
        refine am_cV (b := a) d_Ct_handleSeen_127 v_Ct_156 (vs := []) (st := []) rfl rfl (by decide) (Nat.le_of_ble_eq_true rfl) ho0 (co_lay ho) ?_
        rintro v S2 ⟨rfl, rfl⟩
        first | refine am_if_eqB (tgt := 139) d_Ct_handleSeen_130 (by decide) (fun q2 => ?_) (fun q2 => ?_) | refine am_if_eqN (tgt := 139) d_Ct_handleSeen_130 (by decide) (by omega) (fun q2 => ?_) (fun q2 => ?_) | refine am_if_eq (tgt := 139) d_Ct_handleSeen_130 (by decide) (fun q2 => ?_) (fun q2 => ?_)
        · first | refine am_iincN (b := 1) (L1 := [_, _, _, _, _, _]) d_Ct_handleSeen_139 rfl (by decide) (by decide) rfl ?_ | refine am_iinc (L1 := [_, _, _, _, _, _]) d_Ct_handleSeen_139 rfl rfl (by decide) rfl ?_
          refine am_goto (tgt := 71) d_Ct_handleSeen_142 (by decide) ?_
          first
            | (rw [if_neg (by first | exact am_hno1 (by assumption) (by assumption) | exact am_hno2 (by assumption))] at es
               exact ih (k + 1) s1 _ _ _ (by omega) es.symm (by omega) (by omega) hS1 hf1)
            | (rw [if_pos (by first | exact am_hy1 (by assumption) (by assumption) | exact am_hy2 (by assumption) (by assumption))] at es
               have d1 : s3.2.2.1 ≤ s.2.2.1 + (12 * k + 12) := by omega
               have d2 : s3.2.2.2 ≤ s.2.2.2 + (910 * k + 910) := Nat.le_trans c2 (by rw [← Nat.add_assoc]; exact Nat.add_le_add_right b2 910)
               exact ih (k + 1) s3 _ _ _ (by omega) (by rw [es]; exact e3) d1 d2 hS3 (hf1.trans hf3))
        · refine am_aload_n d_Ct_handleSeen_133 rfl (by first | exact am_rvR _ | exact am_rvN | assumption) ?_
          refine am_aload d_Ct_handleSeen_134 rfl (by first | exact am_rvR _ | exact am_rvN | assumption) ?_
          refine am_cV (b := A 2) d_Ct_handleSeen_136 v_Ct_107 (vs := [.ref a]) (st := []) rfl rfl (by decide) (Nat.le_of_ble_eq_true rfl) (cl_ctl hS1) (ct_clr hn he hS1 J Jo ha (fun i hi => by
              rw [if_pos (by first | exact am_hy1 (by assumption) (by assumption) | exact am_hy2 (by assumption) (by assumption))] at es
              have h59 := hlen i hi
              have hmono := fc_hurt_le (s := s0.1) (hurt := (fun w => w.getLast? == some (nI q) || w.getLast? == some (nI o))) (c := 30 + i) (by omega) (m := m) (k := k + 1)
              rw [show k + 1 + m = (s0.1 7).length by omega, es] at hmono
              omega)) ?_
          rintro v S3 ⟨rfl, s3, e3, ⟨c1, c2⟩, hS3, hf3⟩
          first | refine am_iincN (b := 1) (L1 := [_, _, _, _, _, _]) d_Ct_handleSeen_139 rfl (by decide) (by decide) rfl ?_ | refine am_iinc (L1 := [_, _, _, _, _, _]) d_Ct_handleSeen_139 rfl rfl (by decide) rfl ?_
          refine am_goto (tgt := 71) d_Ct_handleSeen_142 (by decide) ?_
          first
            | (rw [if_neg (by first | exact am_hno1 (by assumption) (by assumption) | exact am_hno2 (by assumption))] at es
               exact ih (k + 1) s1 _ _ _ (by omega) es.symm (by omega) (by omega) hS1 hf1)
            | (rw [if_pos (by first | exact am_hy1 (by assumption) (by assumption) | exact am_hy2 (by assumption) (by assumption))] at es
               have d1 : s3.2.2.1 ≤ s.2.2.1 + (12 * k + 12) := by omega
               have d2 : s3.2.2.2 ≤ s.2.2.2 + (910 * k + 910) := Nat.le_trans c2 (by rw [← Nat.add_assoc]; exact Nat.add_le_add_right b2 910)
               exact ih (k + 1) s3 _ _ _ (by omega) (by rw [es]; exact e3) d1 d2 hS3 (hf1.trans hf3))
      · refine am_aload d_Ct_handleSeen_104 rfl (by first | exact am_rvR _ | exact am_rvN | assumption) ?_
        refine am_iload_n d_Ct_handleSeen_106 rfl ?_
        refine am_cV (b := a) d_Ct_handleSeen_107 v_Ct_152 (vs := [.int (nI o)]) (st := []) rfl rfl (by decide) (Nat.le_of_ble_eq_true rfl) ho0 (co_ends ho hw hw5 _) ?_
        rintro v S2 ⟨rfl, rfl⟩
        first | refine am_if_eqB (tgt := 117) d_Ct_handleSeen_110 (by decide) (fun q3 => ?_) (fun q3 => ?_) | refine am_if_eqN (tgt := 117) d_Ct_handleSeen_110 (by decide) (by omega) (fun q3 => ?_) (fun q3 => ?_) | refine am_if_eq (tgt := 117) d_Ct_handleSeen_110 (by decide) (fun q3 => ?_) (fun q3 => ?_)
        · refine am_iconst (v := nI 0) d_Ct_handleSeen_117 (by decide) ?_
          refine am_istore (L1 := [_, _, _, _, _, _]) d_Ct_handleSeen_118 (by decide) rfl ?_
          refine am_iload d_Ct_handleSeen_120 rfl ?_
          refine am_if_eqN (tgt := 139) d_Ct_handleSeen_122 (by decide) (by omega) (fun _ => ?_) (fun q => absurd q (by omega))
          first | refine am_iincN (b := 1) (L1 := [_, _, _, _, _, _]) d_Ct_handleSeen_139 rfl (by decide) (by decide) rfl ?_ | refine am_iinc (L1 := [_, _, _, _, _, _]) d_Ct_handleSeen_139 rfl rfl (by decide) rfl ?_
          refine am_goto (tgt := 71) d_Ct_handleSeen_142 (by decide) ?_
          first
            | (rw [if_neg (by first | exact am_hno1 (by assumption) (by assumption) | exact am_hno2 (by assumption))] at es
               exact ih (k + 1) s1 _ _ _ (by omega) es.symm (by omega) (by omega) hS1 hf1)
            | (rw [if_pos (by first | exact am_hy1 (by assumption) (by assumption) | exact am_hy2 (by assumption) (by assumption))] at es
               have d1 : s3.2.2.1 ≤ s.2.2.1 + (12 * k + 12) := by omega
               have d2 : s3.2.2.2 ≤ s.2.2.2 + (910 * k + 910) := Nat.le_trans c2 (by rw [← Nat.add_assoc]; exact Nat.add_le_add_right b2 910)
               exact ih (k + 1) s3 _ _ _ (by omega) (by rw [es]; exact e3) d1 d2 hS3 (hf1.trans hf3))
        · refine am_iconst (v := nI 1) d_Ct_handleSeen_113 (by decide) ?_
          refine am_goto (tgt := 118) d_Ct_handleSeen_114 (by decide) ?_
          refine am_istore (L1 := [_, _, _, _, _, _]) d_Ct_handleSeen_118 (by decide) rfl ?_
          refine am_iload d_Ct_handleSeen_120 rfl ?_
          refine am_if_eqN (tgt := 139) d_Ct_handleSeen_122 (by decide) (by omega) (fun q => absurd q (by omega)) (fun _ => ?_)
          refine am_aload d_Ct_handleSeen_125 rfl (by first | exact am_rvR _ | exact am_rvN | assumption) ?_
          refine am_cV (b := a) d_Ct_handleSeen_127 v_Ct_156 (vs := []) (st := []) rfl rfl (by decide) (Nat.le_of_ble_eq_true rfl) ho0 (co_lay ho) ?_
          rintro v S2 ⟨rfl, rfl⟩
          first | refine am_if_eqB (tgt := 139) d_Ct_handleSeen_130 (by decide) (fun q4 => ?_) (fun q4 => ?_) | refine am_if_eqN (tgt := 139) d_Ct_handleSeen_130 (by decide) (by omega) (fun q4 => ?_) (fun q4 => ?_) | refine am_if_eq (tgt := 139) d_Ct_handleSeen_130 (by decide) (fun q4 => ?_) (fun q4 => ?_)
          · first | refine am_iincN (b := 1) (L1 := [_, _, _, _, _, _]) d_Ct_handleSeen_139 rfl (by decide) (by decide) rfl ?_ | refine am_iinc (L1 := [_, _, _, _, _, _]) d_Ct_handleSeen_139 rfl rfl (by decide) rfl ?_
            refine am_goto (tgt := 71) d_Ct_handleSeen_142 (by decide) ?_
            first
              | (rw [if_neg (by first | exact am_hno1 (by assumption) (by assumption) | exact am_hno2 (by assumption))] at es
                 exact ih (k + 1) s1 _ _ _ (by omega) es.symm (by omega) (by omega) hS1 hf1)
              | (rw [if_pos (by first | exact am_hy1 (by assumption) (by assumption) | exact am_hy2 (by assumption) (by assumption))] at es
                 have d1 : s3.2.2.1 ≤ s.2.2.1 + (12 * k + 12) := by omega
                 have d2 : s3.2.2.2 ≤ s.2.2.2 + (910 * k + 910) := Nat.le_trans c2 (by rw [← Nat.add_assoc]; exact Nat.add_le_add_right b2 910)
                 exact ih (k + 1) s3 _ _ _ (by omega) (by rw [es]; exact e3) d1 d2 hS3 (hf1.trans hf3))
          · refine am_aload_n d_Ct_handleSeen_133 rfl (by first | exact am_rvR _ | exact am_rvN | assumption) ?_
            refine am_aload d_Ct_handleSeen_134 rfl (by first | exact am_rvR _ | exact am_rvN | assumption) ?_
            refine am_cV (b := A 2) d_Ct_handleSeen_136 v_Ct_107 (vs := [.ref a]) (st := []) rfl rfl (by decide) (Nat.le_of_ble_eq_true rfl) (cl_ctl hS1) (ct_clr hn he hS1 J Jo ha (fun i hi => by
                rw [if_pos (by first | exact am_hy1 (by assumption) (by assumption) | exact am_hy2 (by assumption) (by assumption))] at es
                have h59 := hlen i hi
                have hmono := fc_hurt_le (s := s0.1) (hurt := (fun w => w.getLast? == some (nI q) || w.getLast? == some (nI o))) (c := 30 + i) (by omega) (m := m) (k := k + 1)
                rw [show k + 1 + m = (s0.1 7).length by omega, es] at hmono
                omega)) ?_
            rintro v S3 ⟨rfl, s3, e3, ⟨c1, c2⟩, hS3, hf3⟩
            first | refine am_iincN (b := 1) (L1 := [_, _, _, _, _, _]) d_Ct_handleSeen_139 rfl (by decide) (by decide) rfl ?_ | refine am_iinc (L1 := [_, _, _, _, _, _]) d_Ct_handleSeen_139 rfl rfl (by decide) rfl ?_
            refine am_goto (tgt := 71) d_Ct_handleSeen_142 (by decide) ?_
            first
              | (rw [if_neg (by first | exact am_hno1 (by assumption) (by assumption) | exact am_hno2 (by assumption))] at es
                 exact ih (k + 1) s1 _ _ _ (by omega) es.symm (by omega) (by omega) hS1 hf1)
              | (rw [if_pos (by first | exact am_hy1 (by assumption) (by assumption) | exact am_hy2 (by assumption) (by assumption))] at es
                 have d1 : s3.2.2.1 ≤ s.2.2.1 + (12 * k + 12) := by omega
                 have d2 : s3.2.2.2 ≤ s.2.2.2 + (910 * k + 910) := Nat.le_trans c2 (by rw [← Nat.add_assoc]; exact Nat.add_le_add_right b2 910)
                 exact ih (k + 1) s3 _ _ _ (by omega) (by rw [es]; exact e3) d1 d2 hS3 (hf1.trans hf3))
  exact key _ 0 s S none none (by rw [hs0]; exact Nat.zero_add _) (by rw [hs0]; rfl) (Nat.le_refl _) (Nat.le_refl _) hS (am_fr.refl _ _)
def fc_sp (q o : Nat) (x : Int32) : Int32 := if x = nI q ∨ x = nI o then -1 else x
theorem fc_get3 {s : fc_S} {c : Nat} {row : List Int32} (h : s c = [row]) (j : Nat) : fc_get s c 0 j = row.getD j 0 := by unfold fc_get; rw [h]; rfl
theorem cl_at3 (hS : cl_P e nw ns room idle A s S) {row : List Int32} (h : s.1 3 = [row]) : S.1 (A 3) = some (31, .inl (am_kI, row.map Value.int)) := by
  have h1 := cl_a3 hS
  unfold cl_arr at h1
  rw [h] at h1
  exact h1
theorem cl_at4 (hS : cl_P e nw ns room idle A s S) {row : List Int32} (h : s.1 4 = [row]) : S.1 (A 4) = some (41, .inl (am_kZ, row.map Value.int)) := by
  have h1 := cl_a4 hS
  unfold cl_arr at h1
  rw [h] at h1
  exact h1
theorem cl_at5 (hS : cl_P e nw ns room idle A s S) {row : List Int32} (h : s.1 5 = [row]) : S.1 (A 5) = some (51, .inl (am_kI, row.map Value.int)) := by
  have h1 := cl_a5 hS
  unfold cl_arr at h1
  rw [h] at h1
  exact h1
theorem fc_up_twice (s : fc_S) (c : Nat) (x y : List (List Int32)) : fc_up (fc_up s c x) c y = fc_up s c y := by
  funext z
  simp only [fc_up_at]
  by_cases h : z = c <;> simp [h]
theorem am_setmap (row : List Int32) (j : Nat) (x : Int32) : (row.map Value.int).set j (.int x) = (row.set j x).map Value.int := (List.map_set).symm
theorem ct_seen1 (hn : ns ≤ 5) (he : am_gE g e) {sd : cl_S} {p0 : List Int32} (hb : sd.2 = s.2) (I : fc_iK ns sd.1) (Io : ∀ p, p.length = 6 → (∀ x ∈ p, fc_end ns x) → fc_iO ns (fc_up sd.1 5 [p])) (hp0 : p0.length = 6) (hpe : ∀ x ∈ p0, fc_end ns x) {q o : Nat} {post : Option Value → am_S → Prop} (hlen0 : ∀ i, i < ns → (fc_hurt (fc_up sd.1 5 [p0.map (fun x => fc_sp q o x)]) (fun w => w.getLast? == some (nI q) || w.getLast? == some (nI o)) (sd.1 7).length (30 + i)).length ≤ 59) (hp : ∀ S', cl_Q e nw ns room idle A s S (fc_hurt (fc_up sd.1 5 [p0.map (fun x => fc_sp q o x)]) (fun w => w.getLast? == some (nI q) || w.getLast? == some (nI o)) (sd.1 7).length) 72 5460 S' → post none S') : ∀ (m k : Nat) (pl : List Int32) (s1 : cl_S) (S1 : am_S), k + m = 6 → s1.1 = fc_up sd.1 5 [pl] → s1.2 = s.2 → pl.length = 6 → (∀ j, j < k → pl[j]? = (p0.map (fun x => fc_sp q o x))[j]?) → (∀ j, k ≤ j → pl[j]? = p0[j]?) → cl_P e nw ns room idle A s1 S1 → am_fr cl_X S S1 → am_W g y_Ct_handleSeen 8 179 post 30 [some (.ref (A 2)), some (.int (nI q)), some (.int (nI o)), some (.int (nI k)), none, none] [] S1 := by
  intro m
  induction m with
  | zero =>
    intro k pl s1 S1 hk e1 b1 hl ha hc hS1 hf1
    have epl : pl = p0.map (fun x => fc_sp q o x) := by
      apply List.ext_getElem?
      intro j
      by_cases hj : j < k
      · exact ha j hj
      · rw [List.getElem?_eq_none (by omega), List.getElem?_eq_none (by rw [List.length_map]; omega)]
    have I1 : fc_iK ns s1.1 := I.same (by rw [e1, fc_up_ne _ (by omega)])
    have e17 : (s1.1 7).length = (sd.1 7).length := by rw [e1, fc_up_ne _ (by omega)]
    have hpe2 : ∀ x ∈ pl, fc_end ns x := by
      rw [epl]
      intro x hx
      obtain ⟨y, hy, rfl⟩ := List.mem_map.mp hx
      show fc_end ns (fc_sp q o y)
      unfold fc_sp
      split
      · exact Or.inl rfl
      · exact hpe y hy
    have Io1 : fc_iO ns s1.1 := by rw [e1]; exact Io pl hl hpe2
    refine am_iload_n d_Ct_handleSeen_30 rfl ?_
    refine am_bipush (v := nI 6) d_Ct_handleSeen_31 (by decide) ?_
    refine am_icmp_geN (tgt := 69) d_Ct_handleSeen_33 (by decide) (by omega) (by omega) (fun _ => ?_) (fun q => absurd q (by omega))
    refine am_iconst (v := nI 0) d_Ct_handleSeen_69 (by decide) ?_
    refine am_istore_n (L1 := [_, _, _, _, _, _]) d_Ct_handleSeen_70 (by decide) rfl ?_
    refine ct_seen2 hn he hS1 I1 Io1 (by rw [e17, e1, epl]; exact hlen0) (fun S' h => hp S' ?_)
    rw [e17, e1, epl] at h
    exact h.from hf1 (by rw [b1]; omega) (by rw [b1]; omega)
  | succ m ih =>
    intro k pl s1 S1 hk e1 b1 hl ha hc hS1 hf1
    have e5 : s1.1 5 = [pl] := by rw [e1, fc_up_same]
    have h5 := cl_at5 hS1 e5
    have hk6 : k < pl.length := by omega
    have hpk : pl[k]? = some (pl.getD k 0) := by rw [List.getD_eq_getElem?_getD, List.getElem?_eq_getElem hk6]; rfl
    have hqk : p0[k]? = some (pl.getD k 0) := by rw [← hc k (Nat.le_refl _)]; exact hpk
    have hno : ¬ (pl.getD k 0 = nI q ∨ pl.getD k 0 = nI o) → ∀ j, j < k + 1 → pl[j]? = (p0.map (fun x => fc_sp q o x))[j]? := by
      intro hz j hj
      by_cases hjk : j = k
      · subst hjk
        rw [List.getElem?_map, hqk, hpk]
        show _ = some (fc_sp q o _)
        unfold fc_sp
        rw [if_neg hz]
      · exact ha j (by omega)
    have hyes : (pl.getD k 0 = nI q ∨ pl.getD k 0 = nI o) → ∀ j, j < k + 1 → (pl.set k (-1))[j]? = (p0.map (fun x => fc_sp q o x))[j]? := by
      intro hz j hj
      by_cases hjk : j = k
      · subst hjk
        rw [List.getElem?_map, hqk, List.getElem?_set_self hk6]
        show _ = some (fc_sp q o _)
        unfold fc_sp
        rw [if_pos hz]
      · rw [List.getElem?_set_ne (by omega)]; exact ha j (by omega)
    have hc1 : ∀ j, k + 1 ≤ j → pl[j]? = p0[j]? := fun j hj => hc j (by omega)
    have hc2 : ∀ j, k + 1 ≤ j → (pl.set k (-1))[j]? = p0[j]? := fun j hj => by rw [List.getElem?_set_ne (by omega)]; exact hc j (by omega)
    obtain ⟨s2, e2, b2, hS2, hf2⟩ := cl_setA (row' := pl.set k (-1)) hS1 (Or.inr (Or.inr ⟨rfl, rfl⟩)) h5
    have e22 : s2.1 = fc_up sd.1 5 [pl.set k (-1)] := by rw [e2, e1, fc_up_twice]
    refine am_iload_n d_Ct_handleSeen_30 rfl ?_
    refine am_bipush (v := nI 6) d_Ct_handleSeen_31 (by decide) ?_
    refine am_icmp_geN (tgt := 69) d_Ct_handleSeen_33 (by decide) (by omega) (by omega) (fun q => absurd q (by omega)) (fun _ => ?_)
    refine am_aload_n d_Ct_handleSeen_36 rfl (by first | exact am_rvR _ | exact am_rvN | assumption) ?_
    refine am_get d_Ct_handleSeen_37 f_Ct_23 (cl_ctl hS1) (by rfl) ?_
    refine am_iload_n d_Ct_handleSeen_40 rfl ?_
    refine am_iald (j := k) d_Ct_handleSeen_41 am_kI_ok h5 rfl (cl_fld (by omega)) (by simp; omega) ?_
    refine am_iload_n d_Ct_handleSeen_42 rfl ?_
    first | refine am_icmp_eqN (tgt := 56) d_Ct_handleSeen_43 (by decide) (by omega) (by omega) (fun q1 => ?_) (fun q1 => ?_) | refine am_icmp_eq (tgt := 56) d_Ct_handleSeen_43 (by decide) (fun q1 => ?_) (fun q1 => ?_)
    · refine am_aload_n d_Ct_handleSeen_56 rfl (by first | exact am_rvR _ | exact am_rvN | assumption) ?_
      refine am_get d_Ct_handleSeen_57 f_Ct_23 (cl_ctl hS1) (by rfl) ?_
      refine am_iload_n d_Ct_handleSeen_60 rfl ?_
      refine am_iconst (v := (-1)) d_Ct_handleSeen_61 (by decide) ?_
      refine am_iast (j := k) d_Ct_handleSeen_62 am_kI_ok h5 (by decide) rfl (by simp; omega) (by simp; omega) ?_
      rw [am_setmap]
      first | refine am_iincN (b := 1) (L1 := [_, _, _, _, _, _]) d_Ct_handleSeen_63 rfl (by decide) (by decide) rfl ?_ | refine am_iinc (L1 := [_, _, _, _, _, _]) d_Ct_handleSeen_63 rfl rfl (by decide) rfl ?_
      refine am_goto (tgt := 30) d_Ct_handleSeen_66 (by decide) ?_
      first
        | exact ih (k + 1) _ s1 _ (by omega) e1 b1 hl (hno (fun z => z.elim (fun z => absurd z (by assumption)) (fun z => absurd z (by assumption)))) hc1 hS1 hf1
        | exact ih (k + 1) _ s2 _ (by omega) e22 (by rw [b2]; exact b1) (by rw [List.length_set]; exact hl) (hyes (by first | exact Or.inl (by assumption) | exact Or.inr (by assumption))) hc2 hS2 (hf1.trans hf2)
    · refine am_aload_n d_Ct_handleSeen_46 rfl (by first | exact am_rvR _ | exact am_rvN | assumption) ?_
      refine am_get d_Ct_handleSeen_47 f_Ct_23 (cl_ctl hS1) (by rfl) ?_
      refine am_iload_n d_Ct_handleSeen_50 rfl ?_
      refine am_iald (j := k) d_Ct_handleSeen_51 am_kI_ok h5 rfl (cl_fld (by omega)) (by simp; omega) ?_
      refine am_iload_n d_Ct_handleSeen_52 rfl ?_
      first | refine am_icmp_neN (tgt := 63) d_Ct_handleSeen_53 (by decide) (by omega) (by omega) (fun q2 => ?_) (fun q2 => ?_) | refine am_icmp_ne (tgt := 63) d_Ct_handleSeen_53 (by decide) (fun q2 => ?_) (fun q2 => ?_)
      · first | refine am_iincN (b := 1) (L1 := [_, _, _, _, _, _]) d_Ct_handleSeen_63 rfl (by decide) (by decide) rfl ?_ | refine am_iinc (L1 := [_, _, _, _, _, _]) d_Ct_handleSeen_63 rfl rfl (by decide) rfl ?_
        refine am_goto (tgt := 30) d_Ct_handleSeen_66 (by decide) ?_
        first
          | exact ih (k + 1) _ s1 _ (by omega) e1 b1 hl (hno (fun z => z.elim (fun z => absurd z (by assumption)) (fun z => absurd z (by assumption)))) hc1 hS1 hf1
          | exact ih (k + 1) _ s2 _ (by omega) e22 (by rw [b2]; exact b1) (by rw [List.length_set]; exact hl) (hyes (by first | exact Or.inl (by assumption) | exact Or.inr (by assumption))) hc2 hS2 (hf1.trans hf2)
      · refine am_aload_n d_Ct_handleSeen_56 rfl (by first | exact am_rvR _ | exact am_rvN | assumption) ?_
        refine am_get d_Ct_handleSeen_57 f_Ct_23 (cl_ctl hS1) (by rfl) ?_
        refine am_iload_n d_Ct_handleSeen_60 rfl ?_
        refine am_iconst (v := (-1)) d_Ct_handleSeen_61 (by decide) ?_
        refine am_iast (j := k) d_Ct_handleSeen_62 am_kI_ok h5 (by decide) rfl (by simp; omega) (by simp; omega) ?_
        rw [am_setmap]
        first | refine am_iincN (b := 1) (L1 := [_, _, _, _, _, _]) d_Ct_handleSeen_63 rfl (by decide) (by decide) rfl ?_ | refine am_iinc (L1 := [_, _, _, _, _, _]) d_Ct_handleSeen_63 rfl rfl (by decide) rfl ?_
        refine am_goto (tgt := 30) d_Ct_handleSeen_66 (by decide) ?_
        first
          | exact ih (k + 1) _ s1 _ (by omega) e1 b1 hl (hno (fun z => z.elim (fun z => absurd z (by assumption)) (fun z => absurd z (by assumption)))) hc1 hS1 hf1
          | exact ih (k + 1) _ s2 _ (by omega) e22 (by rw [b2]; exact b1) (by rw [List.length_set]; exact hl) (hyes (by first | exact Or.inl (by assumption) | exact Or.inr (by assumption))) hc2 hS2 (hf1.trans hf2)
theorem ct_seen (hn : ns ≤ 5) (he : am_gE g e) (hS : cl_P e nw ns room idle A s S) (I : fc_iK ns s.1) (Io : fc_iO ns s.1) {q o : Nat} (hq : q < 4 * ns) (ho : o < 4 * ns) (hlen0 : ∀ i, i < ns → (fc_seen s.1 q o (30 + i)).length ≤ 59) : am_M g y_Ct_handleSeen "(II)V" 8 179 [.ref (A 2), .int (nI q), .int (nI o)] S (fun v S' => v = none ∧ cl_Q e nw ns room idle A s S (fc_seen s.1 q o) 72 5460 S') := by
  obtain ⟨g2, ⟨ot, h3, h3l, h3e⟩, ⟨mk, h4, h4l, h4e⟩, ⟨p0, h5, h5l, h5e⟩⟩ := Io
  have ed : fc_seen s.1 q o = fc_hurt (fc_up (fc_up (fc_up s.1 4 [(mk.set q 1).set o 1]) 3 [(ot.set q (nI o)).set o (nI q)]) 5 [p0.map (fun x => fc_sp q o x)]) (fun w => w.getLast? == some (nI q) || w.getLast? == some (nI o)) (s.1 7).length := by
    unfold fc_seen fc_len fc_sp
    rw [h3, h4, h5]
    rfl
  have h4c := cl_at4 hS h4
  obtain ⟨sa, ea, ba, hSa, hfa⟩ := cl_setA (row' := mk.set q 1) hS (Or.inr (Or.inl ⟨rfl, rfl⟩)) h4c
  have h4a : (am_up S (A 4) 41 (.inl (am_kZ, (mk.set q 1).map Value.int))).1 (A 4) = some (41, .inl (am_kZ, (mk.set q 1).map Value.int)) := am_up_at _ _ _ _
  obtain ⟨sb, eb, bb, hSb, hfb⟩ := cl_setA (row' := (mk.set q 1).set o 1) hSa (Or.inr (Or.inl ⟨rfl, rfl⟩)) h4a
  have eb3 : sb.1 3 = [ot] := by rw [eb, fc_up_ne _ (by omega), ea, fc_up_ne _ (by omega), h3]
  have h3c := cl_at3 hSb eb3
  obtain ⟨sc, ec, bc, hSc, hfc⟩ := cl_setA (row' := ot.set q (nI o)) hSb (Or.inl ⟨rfl, rfl⟩) h3c
  have ec3 : sc.1 3 = [ot.set q (nI o)] := by rw [ec, fc_up_same]
  have h3d := cl_at3 hSc ec3
  obtain ⟨sd, ed', bd, hSd, hfd⟩ := cl_setA (row' := (ot.set q (nI o)).set o (nI q)) hSc (Or.inl ⟨rfl, rfl⟩) h3d
  have esd : sd.1 = fc_up (fc_up s.1 4 [(mk.set q 1).set o 1]) 3 [(ot.set q (nI o)).set o (nI q)] := by rw [ed', ec, fc_up_twice, eb, ea, fc_up_twice]
  have e7 : sd.1 7 = s.1 7 := by rw [esd, fc_up_ne _ (by omega), fc_up_ne _ (by omega)]
  have e5 : sd.1 5 = [p0] := by rw [esd, fc_up_ne _ (by omega), fc_up_ne _ (by omega), h5]
  have bs : sd.2 = s.2 := by rw [bd, bc, bb, ba]
  have Io0 : ∀ p : List Int32, p.length = 6 → (∀ x ∈ p, fc_end ns x) → fc_iO ns (fc_up sd.1 5 [p]) := by
    intro p hp hpe
    refine ⟨?_, ⟨(ot.set q (nI o)).set o (nI q), ?_, ?_, ?_⟩, ⟨(mk.set q 1).set o 1, ?_, ?_, ?_⟩, ⟨p, fc_up_same _ _ _, hp, hpe⟩⟩
    · rw [fc_up_ne _ (by omega), esd, fc_up_ne _ (by omega), fc_up_ne _ (by omega)]; exact g2
    · rw [fc_up_ne _ (by omega), esd, fc_up_same]
    · rw [List.length_set, List.length_set]; exact h3l
    · intro x hx
      rcases List.mem_or_eq_of_mem_set hx with h1 | h1
      · rcases List.mem_or_eq_of_mem_set h1 with h2 | h2
        · exact h3e x h2
        · exact Or.inr ⟨o, ho, h2⟩
      · exact Or.inr ⟨q, hq, h1⟩
    · rw [fc_up_ne _ (by omega), esd, fc_up_ne _ (by omega), fc_up_same]
    · rw [List.length_set, List.length_set]; exact h4l
    · intro x hx
      rcases List.mem_or_eq_of_mem_set hx with h1 | h1
      · rcases List.mem_or_eq_of_mem_set h1 with h2 | h2
        · exact h4e x h2
        · exact Or.inr h2
      · exact Or.inr h1
  have I0 : fc_iK ns sd.1 := I.same e7
  have hf : am_fr cl_X S _ := ((hfa.trans hfb).trans hfc).trans hfd
  refine am_Mof (L0 := [some (.ref (A 2)), some (.int (nI q)), some (.int (nI o)), none, none, none]) pl_Ct_handleSeen (am_k1 rfl (am_k1 rfl (am_k1 rfl am_k0))) (Nat.le_of_ble_eq_true rfl) rfl ?_
  refine am_aload_n d_Ct_handleSeen_0 rfl (by first | exact am_rvR _ | exact am_rvN | assumption) ?_
  refine am_get d_Ct_handleSeen_1 f_Ct_19 (cl_ctl hS) (by rfl) ?_
  refine am_iload_n d_Ct_handleSeen_4 rfl ?_
  refine am_iconst (v := (1 : Int32)) d_Ct_handleSeen_5 (by decide) ?_
  refine am_zast (j := q) d_Ct_handleSeen_6 am_kZ_ok h4c (by decide) rfl (by simp; omega) (by simp; omega) (by first | rfl | exact am_b_nar _) ?_
  rw [am_setmap]
  refine am_aload_n d_Ct_handleSeen_7 rfl (by first | exact am_rvR _ | exact am_rvN | assumption) ?_
  refine am_get d_Ct_handleSeen_8 f_Ct_19 (cl_ctl hSa) (by rfl) ?_
  refine am_iload_n d_Ct_handleSeen_11 rfl ?_
  refine am_iconst (v := (1 : Int32)) d_Ct_handleSeen_12 (by decide) ?_
  refine am_zast (j := o) d_Ct_handleSeen_13 am_kZ_ok h4a (by decide) rfl (by simp; omega) (by simp; omega) (by first | rfl | exact am_b_nar _) ?_
  rw [am_setmap]
  refine am_aload_n d_Ct_handleSeen_14 rfl (by first | exact am_rvR _ | exact am_rvN | assumption) ?_
  refine am_get d_Ct_handleSeen_15 f_Ct_15 (cl_ctl hSb) (by rfl) ?_
  refine am_iload_n d_Ct_handleSeen_18 rfl ?_
  refine am_iload_n d_Ct_handleSeen_19 rfl ?_
  refine am_iast (j := q) d_Ct_handleSeen_20 am_kI_ok h3c (by decide) rfl (by simp; omega) (by simp; omega) ?_
  rw [am_setmap]
  refine am_aload_n d_Ct_handleSeen_21 rfl (by first | exact am_rvR _ | exact am_rvN | assumption) ?_
  refine am_get d_Ct_handleSeen_22 f_Ct_15 (cl_ctl hSc) (by rfl) ?_
  refine am_iload_n d_Ct_handleSeen_25 rfl ?_
  refine am_iload_n d_Ct_handleSeen_26 rfl ?_
  refine am_iast (j := o) d_Ct_handleSeen_27 am_kI_ok h3d (by decide) rfl (by simp; omega) (by simp; omega) ?_
  rw [am_setmap]
  refine am_iconst (v := nI 0) d_Ct_handleSeen_28 (by decide) ?_
  refine am_istore_n (L1 := [_, _, _, _, _, _]) d_Ct_handleSeen_29 (by decide) rfl ?_
  refine ct_seen1 hn he bs I0 Io0 h5l h5e (by rw [e7, esd, ← ed]; exact hlen0) (fun S' h => ⟨rfl, ?_⟩) 6 0 p0 sd _ rfl ?_ bs h5l (fun j hj => absurd hj (by omega)) (fun _ _ => rfl) hSd hf
  · funext z
    rw [fc_up_at]
    by_cases hz : z = 5
    · subst hz; rw [if_pos rfl]; exact e5
    · rw [if_neg hz]
  · rw [ed, ← e7, ← esd]; exact h
end CTG
