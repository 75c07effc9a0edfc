/-! the class: a datagram is sent out everywhere -/
section CTH
variable {g : am_G} {e nw ns room idle : Nat} {A : Nat → Nat} {s : cl_S} {S : am_S}
theorem fc_bits_eq {s s' : fc_S} (h : s' 4 = s 4) (i : Nat) (port : Int32) (u : Nat) : ∀ p, fc_bits s' i port u p = fc_bits s i port u p
  | 0 => rfl
  | p + 1 => by
    unfold fc_bits
    rw [fc_bits_eq h i port u p, show fc_get s' 4 0 (4 * u + p) = fc_get s 4 0 (4 * u + p) from by unfold fc_get; rw [h]]
theorem am_shl4 {p : Nat} (h : p < 4) : (1 : Int32) <<< (nI p &&& 31) = 1 <<< nI p := by
  have : p = 0 ∨ p = 1 ∨ p = 2 ∨ p = 3 := by omega
  rcases this with rfl | rfl | rfl | rfl <;> rfl
theorem fc_flood_ne {s : fc_S} {i : Nat} {port f t nr : Int32} {c : Nat} : ∀ {u : Nat}, (c < 30 ∨ 30 + u ≤ c) → fc_flood s i port f t nr u c = s c
  | 0, _ => rfl
  | u + 1, h => by
    unfold fc_flood
    split
    · unfold fc_add
      rw [fc_up_ne _ (by omega)]
      exact fc_flood_ne (by omega)
    · exact fc_flood_ne (by omega)
theorem ct_bits (hn : ns ≤ 5) (hS : cl_P e nw ns room idle A s S) {mk : List Int32} (h4 : s.1 4 = [mk]) (h4l : mk.length = 4 * ns) {u i dd : Nat} (hu : u < ns) (hi : i < ns) {port : Int32} {post : Option Value → am_S → Prop} (K : ∀ o7, am_W g y_Ct_orderOuts 7 152 post 79 [some (.ref (A 2)), some (.int (nI i)), some (.int port), some (.ref dd), some (.int (nI u)), some (.int (fc_bits s.1 i port u 4)), some (.int (nI 4)), o7] [] S) : ∀ (m p : Nat) (o7 : Option Value), p + m = 4 → am_W g y_Ct_orderOuts 7 152 post 19 [some (.ref (A 2)), some (.int (nI i)), some (.int port), some (.ref dd), some (.int (nI u)), some (.int (fc_bits s.1 i port u p)), some (.int (nI p)), o7] [] S := by
  have h4c := cl_at4 hS h4
  intro m
  induction m with
  | zero =>
    intro p o7 hp
    have ep : p = 4 := by omega
    subst ep
    refine am_iload d_Ct_orderOuts_19 rfl ?_
    refine am_iconst (v := nI 4) d_Ct_orderOuts_21 (by decide) ?_
    refine am_icmp_geN (tgt := 79) d_Ct_orderOuts_22 (by decide) (by omega) (by omega) (fun _ => ?_) (fun q => absurd q (by omega))
    exact K _
  | succ m ih =>
    intro p o7 hp
    have es : fc_bits s.1 i port u (p + 1) = if fc_get s.1 4 0 (4 * u + p) = 0 ∧ ¬ (u = i ∧ nI p = port) then fc_bits s.1 i port u p ||| (1 <<< nI p) else fc_bits s.1 i port u p := rfl
    have hg : fc_get s.1 4 0 (4 * u + p) = mk.getD (u * 4 + p) 0 := by rw [fc_get3 h4, Nat.mul_comm 4 u]
    have h3 := ih (p + 1)
    rw [hg] at es
    refine am_iload d_Ct_orderOuts_19 rfl ?_
    refine am_iconst (v := nI 4) d_Ct_orderOuts_21 (by decide) ?_
    refine am_icmp_geN (tgt := 79) d_Ct_orderOuts_22 (by decide) (by omega) (by omega) (fun q => absurd q (by omega)) (fun _ => ?_)
    refine am_iload d_Ct_orderOuts_25 rfl ?_
    refine am_iload_n d_Ct_orderOuts_27 rfl ?_
    first | refine am_icmp_neN (tgt := 41) d_Ct_orderOuts_28 (by decide) (by omega) (by omega) (fun q1 => ?_) (fun q1 => ?_) | refine am_icmp_ne (tgt := 41) d_Ct_orderOuts_28 (by decide) (fun q1 => ?_) (fun q1 => ?_)
    · refine am_iconst (v := nI 0) d_Ct_orderOuts_41 (by decide) ?_
      refine am_istore (L1 := [_, _, _, _, _, _, _, _]) d_Ct_orderOuts_42 (by decide) rfl ?_
      refine am_aload_n d_Ct_orderOuts_44 rfl (by first | exact am_rvR _ | exact am_rvN | assumption) ?_
      refine am_get d_Ct_orderOuts_45 f_Ct_19 (cl_ctl hS) (by rfl) ?_
      refine am_iload d_Ct_orderOuts_48 rfl ?_
      refine am_iload d_Ct_orderOuts_50 rfl ?_
      refine am_cS d_Ct_orderOuts_52 s_Ct_62 (vs := [.int (nI u), .int (nI p)]) (st := [.ref (A 4)]) rfl rfl (by decide) (Nat.le_of_ble_eq_true rfl) (ff_endOf) ?_
      rintro v S2 ⟨rfl, rfl⟩
      refine am_zald (j := u * 4 + p) d_Ct_orderOuts_55 am_kZ_ok h4c rfl (cl_fld (by omega)) (by simp; omega) ?_
      first | refine am_if_neB (tgt := 73) d_Ct_orderOuts_56 (by decide) (fun q2 => ?_) (fun q2 => ?_) | refine am_if_neN (tgt := 73) d_Ct_orderOuts_56 (by decide) (by omega) (fun q2 => ?_) (fun q2 => ?_) | refine am_if_ne (tgt := 73) d_Ct_orderOuts_56 (by decide) (fun q2 => ?_) (fun q2 => ?_)
      · first | refine am_iincN (b := 1) (L1 := [_, _, _, _, _, _, _, _]) d_Ct_orderOuts_73 rfl (by decide) (by decide) rfl ?_ | refine am_iinc (L1 := [_, _, _, _, _, _, _, _]) d_Ct_orderOuts_73 rfl rfl (by decide) rfl ?_
        refine am_goto (tgt := 19) d_Ct_orderOuts_76 (by decide) ?_
        first
          | (rw [if_neg (by first | exact (fun z => absurd z.1 (by assumption)) | exact (fun z => z.2 ⟨by assumption, by assumption⟩))] at es
             rw [es] at h3
             exact h3 _ (by omega))
          | (rw [if_pos ⟨by assumption, fun z => by first | exact absurd z.1 (by assumption) | exact absurd z.2 (by assumption)⟩] at es
             rw [es] at h3
             rw [am_shl4 (by omega)]
             exact h3 _ (by omega))
      · refine am_iload d_Ct_orderOuts_59 rfl ?_
        refine am_if_neN (tgt := 73) d_Ct_orderOuts_61 (by decide) (by omega) (fun q => absurd q (by omega)) (fun _ => ?_)
        refine am_iload d_Ct_orderOuts_64 rfl ?_
        refine am_iconst (v := (1 : Int32)) d_Ct_orderOuts_66 (by decide) ?_
        refine am_iload d_Ct_orderOuts_67 rfl ?_
        refine am_ishl d_Ct_orderOuts_69 ?_
        refine am_ior d_Ct_orderOuts_70 ?_
        refine am_istore (L1 := [_, _, _, _, _, _, _, _]) d_Ct_orderOuts_71 (by decide) rfl ?_
        first | refine am_iincN (b := 1) (L1 := [_, _, _, _, _, _, _, _]) d_Ct_orderOuts_73 rfl (by decide) (by decide) rfl ?_ | refine am_iinc (L1 := [_, _, _, _, _, _, _, _]) d_Ct_orderOuts_73 rfl rfl (by decide) rfl ?_
        refine am_goto (tgt := 19) d_Ct_orderOuts_76 (by decide) ?_
        first
          | (rw [if_neg (by first | exact (fun z => absurd z.1 (by assumption)) | exact (fun z => z.2 ⟨by assumption, by assumption⟩))] at es
             rw [es] at h3
             exact h3 _ (by omega))
          | (rw [if_pos ⟨by assumption, fun z => by first | exact absurd z.1 (by assumption) | exact absurd z.2 (by assumption)⟩] at es
             rw [es] at h3
             rw [am_shl4 (by omega)]
             exact h3 _ (by omega))
    · refine am_iload d_Ct_orderOuts_31 rfl ?_
      refine am_iload_n d_Ct_orderOuts_33 rfl ?_
      first | refine am_icmp_neN (tgt := 41) d_Ct_orderOuts_34 (by decide) (by omega) (by omega) (fun q3 => ?_) (fun q3 => ?_) | refine am_icmp_ne (tgt := 41) d_Ct_orderOuts_34 (by decide) (fun q3 => ?_) (fun q3 => ?_)
      · refine am_iconst (v := nI 0) d_Ct_orderOuts_41 (by decide) ?_
        refine am_istore (L1 := [_, _, _, _, _, _, _, _]) d_Ct_orderOuts_42 (by decide) rfl ?_
        refine am_aload_n d_Ct_orderOuts_44 rfl (by first | exact am_rvR _ | exact am_rvN | assumption) ?_
        refine am_get d_Ct_orderOuts_45 f_Ct_19 (cl_ctl hS) (by rfl) ?_
        refine am_iload d_Ct_orderOuts_48 rfl ?_
        refine am_iload d_Ct_orderOuts_50 rfl ?_
        refine am_cS d_Ct_orderOuts_52 s_Ct_62 (vs := [.int (nI u), .int (nI p)]) (st := [.ref (A 4)]) rfl rfl (by decide) (Nat.le_of_ble_eq_true rfl) (ff_endOf) ?_
        rintro v S2 ⟨rfl, rfl⟩
        refine am_zald (j := u * 4 + p) d_Ct_orderOuts_55 am_kZ_ok h4c rfl (cl_fld (by omega)) (by simp; omega) ?_
        first | refine am_if_neB (tgt := 73) d_Ct_orderOuts_56 (by decide) (fun q4 => ?_) (fun q4 => ?_) | refine am_if_neN (tgt := 73) d_Ct_orderOuts_56 (by decide) (by omega) (fun q4 => ?_) (fun q4 => ?_) | refine am_if_ne (tgt := 73) d_Ct_orderOuts_56 (by decide) (fun q4 => ?_) (fun q4 => ?_)
        · first | refine am_iincN (b := 1) (L1 := [_, _, _, _, _, _, _, _]) d_Ct_orderOuts_73 rfl (by decide) (by decide) rfl ?_ | refine am_iinc (L1 := [_, _, _, _, _, _, _, _]) d_Ct_orderOuts_73 rfl rfl (by decide) rfl ?_
          refine am_goto (tgt := 19) d_Ct_orderOuts_76 (by decide) ?_
          first
            | (rw [if_neg (by first | exact (fun z => absurd z.1 (by assumption)) | exact (fun z => z.2 ⟨by assumption, by assumption⟩))] at es
               rw [es] at h3
               exact h3 _ (by omega))
            | (rw [if_pos ⟨by assumption, fun z => by first | exact absurd z.1 (by assumption) | exact absurd z.2 (by assumption)⟩] at es
               rw [es] at h3
               rw [am_shl4 (by omega)]
               exact h3 _ (by omega))
        · refine am_iload d_Ct_orderOuts_59 rfl ?_
          refine am_if_neN (tgt := 73) d_Ct_orderOuts_61 (by decide) (by omega) (fun q => absurd q (by omega)) (fun _ => ?_)
          refine am_iload d_Ct_orderOuts_64 rfl ?_
          refine am_iconst (v := (1 : Int32)) d_Ct_orderOuts_66 (by decide) ?_
          refine am_iload d_Ct_orderOuts_67 rfl ?_
          refine am_ishl d_Ct_orderOuts_69 ?_
          refine am_ior d_Ct_orderOuts_70 ?_
          refine am_istore (L1 := [_, _, _, _, _, _, _, _]) d_Ct_orderOuts_71 (by decide) rfl ?_
          first | refine am_iincN (b := 1) (L1 := [_, _, _, _, _, _, _, _]) d_Ct_orderOuts_73 rfl (by decide) (by decide) rfl ?_ | refine am_iinc (L1 := [_, _, _, _, _, _, _, _]) d_Ct_orderOuts_73 rfl rfl (by decide) rfl ?_
          refine am_goto (tgt := 19) d_Ct_orderOuts_76 (by decide) ?_
          first
            | (rw [if_neg (by first | exact (fun z => absurd z.1 (by assumption)) | exact (fun z => z.2 ⟨by assumption, by assumption⟩))] at es
               rw [es] at h3
               exact h3 _ (by omega))
            | (rw [if_pos ⟨by assumption, fun z => by first | exact absurd z.1 (by assumption) | exact absurd z.2 (by assumption)⟩] at es
               rw [es] at h3
               rw [am_shl4 (by omega)]
               exact h3 _ (by omega))
      · refine am_iconst (v := nI 1) d_Ct_orderOuts_37 (by decide) ?_
        refine am_goto (tgt := 42) d_Ct_orderOuts_38 (by decide) ?_
        refine am_istore (L1 := [_, _, _, _, _, _, _, _]) d_Ct_orderOuts_42 (by decide) rfl ?_
        refine am_aload_n d_Ct_orderOuts_44 rfl (by first | exact am_rvR _ | exact am_rvN | assumption) ?_
        refine am_get d_Ct_orderOuts_45 f_Ct_19 (cl_ctl hS) (by rfl) ?_
        refine am_iload d_Ct_orderOuts_48 rfl ?_
        refine am_iload d_Ct_orderOuts_50 rfl ?_
        refine am_cS d_Ct_orderOuts_52 s_Ct_62 (vs := [.int (nI u), .int (nI p)]) (st := [.ref (A 4)]) rfl rfl (by decide) (Nat.le_of_ble_eq_true rfl) (ff_endOf) ?_
        rintro v S2 ⟨rfl, rfl⟩
        refine am_zald (j := u * 4 + p) d_Ct_orderOuts_55 am_kZ_ok h4c rfl (cl_fld (by omega)) (by simp; omega) ?_
        first | refine am_if_neB (tgt := 73) d_Ct_orderOuts_56 (by decide) (fun q5 => ?_) (fun q5 => ?_) | refine am_if_neN (tgt := 73) d_Ct_orderOuts_56 (by decide) (by omega) (fun q5 => ?_) (fun q5 => ?_) | refine am_if_ne (tgt := 73) d_Ct_orderOuts_56 (by decide) (fun q5 => ?_) (fun q5 => ?_)
        · first | refine am_iincN (b := 1) (L1 := [_, _, _, _, _, _, _, _]) d_Ct_orderOuts_73 rfl (by decide) (by decide) rfl ?_ | refine am_iinc (L1 := [_, _, _, _, _, _, _, _]) d_Ct_orderOuts_73 rfl rfl (by decide) rfl ?_
          refine am_goto (tgt := 19) d_Ct_orderOuts_76 (by decide) ?_
          first
            | (rw [if_neg (by first | exact (fun z => absurd z.1 (by assumption)) | exact (fun z => z.2 ⟨by assumption, by assumption⟩))] at es
               rw [es] at h3
               exact h3 _ (by omega))
            | (rw [if_pos ⟨by assumption, fun z => by first | exact absurd z.1 (by assumption) | exact absurd z.2 (by assumption)⟩] at es
               rw [es] at h3
               rw [am_shl4 (by omega)]
               exact h3 _ (by omega))
        · refine am_iload d_Ct_orderOuts_59 rfl ?_
          refine am_if_neN (tgt := 73) d_Ct_orderOuts_61 (by decide) (by omega) (fun _ => ?_) (fun q => absurd q (by omega))
          first | refine am_iincN (b := 1) (L1 := [_, _, _, _, _, _, _, _]) d_Ct_orderOuts_73 rfl (by decide) (by decide) rfl ?_ | refine am_iinc (L1 := [_, _, _, _, _, _, _, _]) d_Ct_orderOuts_73 rfl rfl (by decide) rfl ?_
          refine am_goto (tgt := 19) d_Ct_orderOuts_76 (by decide) ?_
          first
            | (rw [if_neg (by first | exact (fun z => absurd z.1 (by assumption)) | exact (fun z => z.2 ⟨by assumption, by assumption⟩))] at es
               rw [es] at h3
               exact h3 _ (by omega))
            | (rw [if_pos ⟨by assumption, fun z => by first | exact absurd z.1 (by assumption) | exact absurd z.2 (by assumption)⟩] at es
               rw [es] at h3
               rw [am_shl4 (by omega)]
               exact h3 _ (by omega))
theorem ct_outs (hn : ns ≤ 5) (he : am_gE g e) (hS : cl_P e nw ns room idle A s S) (Io : fc_iO ns s.1) {i dd : Nat} (hi : i < ns) {port f t nr : Int32} (hd : S.1 dd = some (0, .inr (am_cDg, [.int f, .int t, .int nr]))) (hlen : ∀ u, u < ns → (s.1 (30 + u)).length ≤ 60) : am_M g y_Ct_orderOuts "(IILFlowFabric$Datagram;)V" 7 152 [.ref (A 2), .int (nI i), .int port, .ref dd] S (fun v S' => v = none ∧ cl_Q e nw ns room idle A s S (fc_flood s.1 i port f t nr ns) 10 475 S') := by
  obtain ⟨-, -, ⟨mk, h4, h4l, h4e⟩, -⟩ := Io
  have key : ∀ (m u : Nat) (s1 : cl_S) (S1 : am_S) (o5 o6 o7 : Option Value), u + m = ns → s1.1 = fc_flood s.1 i port f t nr u → s1.2.2.1 ≤ s.2.2.1 + 2 * u → s1.2.2.2 ≤ s.2.2.2 + 95 * u → cl_P e nw ns room idle A s1 S1 → am_fr cl_X S S1 → am_W g y_Ct_orderOuts 7 152 (fun v S' => v = none ∧ cl_Q e nw ns room idle A s S (fc_flood s.1 i port f t nr ns) 10 475 S') 3 [some (.ref (A 2)), some (.int (nI i)), some (.int port), some (.ref dd), some (.int (nI u)), o5, o6, o7] [] S1 := by
    intro m
    induction m with
    | zero =>
      intro u s1 S1 o5 o6 o7 hk e1 b1 b2 hS1 hf1
      have eu : u = ns := by omega
      subst eu
      refine am_iload d_Ct_orderOuts_3 rfl ?_
      refine am_aload_n d_Ct_orderOuts_5 rfl (by first | exact am_rvR _ | exact am_rvN | assumption) ?_
      refine am_get d_Ct_orderOuts_6 f_Ct_9 (cl_ctl hS1) (by rfl) ?_
      refine am_alen (v := nI u) d_Ct_orderOuts_9 am_kN_ok (cl_nodes hS1) (by simp; rfl) ?_
      refine am_icmp_geN (tgt := 129) d_Ct_orderOuts_10 (by decide) (by omega) (by omega) (fun _ => ?_) (fun q => absurd q (by omega))
      refine am_vret d_Ct_orderOuts_129 rfl ?_
      exact ⟨rfl, s1, e1, ⟨by omega, by omega⟩, hS1, hf1⟩
    | succ m ih =>
      intro u s1 S1 o5 o6 o7 hk e1 b1 b2 hS1 hf1
      have hu : u < ns := by omega
      have e14 : s1.1 4 = [mk] := by rw [e1, fc_flood_ne (by omega), h4]
      have hL : cl_isL ns (30 + u) := by unfold cl_isL; omega
      have e1u : s1.1 (30 + u) = s.1 (30 + u) := by rw [e1, fc_flood_ne (by omega)]
      have hl60 := hlen u hu
      rw [← e1u] at hl60
      have eb : fc_bits s1.1 i port u 4 = fc_bits s.1 i port u 4 := fc_bits_eq (by rw [e14, h4]) i port u 4
      have hd1 := hf1.keep hd (fun z => by unfold cl_X at z; omega)
      have es : fc_flood s.1 i port f t nr (u + 1) = if fc_bits s.1 i port u 4 ≠ 0 ∧ fc_len s.1 (30 + u) < 16 then fc_add (fc_flood s.1 i port f t nr u) (30 + u) [3, fc_bits s.1 i port u 4, f, t, nr] else fc_flood s.1 i port f t nr u := rfl
      have hlu : fc_len s.1 (30 + u) = (s1.1 (30 + u)).length := by unfold fc_len; rw [e1u]
      rw [← e1, ← eb, hlu] at es
      refine am_iload d_Ct_orderOuts_3 rfl ?_
      refine am_aload_n d_Ct_orderOuts_5 rfl (by first | exact am_rvR _ | exact am_rvN | assumption) ?_
      refine am_get d_Ct_orderOuts_6 f_Ct_9 (cl_ctl hS1) (by rfl) ?_
      refine am_alen (v := nI ns) d_Ct_orderOuts_9 am_kN_ok (cl_nodes hS1) (by simp; rfl) ?_
      refine am_icmp_geN (tgt := 129) d_Ct_orderOuts_10 (by decide) (by omega) (by omega) (fun q => absurd q (by omega)) (fun _ => ?_)
      refine am_iconst (v := nI 0) d_Ct_orderOuts_13 (by decide) ?_
      refine am_istore (L1 := [_, _, _, _, _, _, _, _]) d_Ct_orderOuts_14 (by decide) rfl ?_
      refine am_iconst (v := nI 0) d_Ct_orderOuts_16 (by decide) ?_
      refine am_istore (L1 := [_, _, _, _, _, _, _, _]) d_Ct_orderOuts_17 (by decide) rfl ?_
      refine ct_bits hn hS1 e14 h4l hu hi (fun o7 => ?_) 4 0 _ rfl
      refine am_iload d_Ct_orderOuts_79 rfl ?_
      first | refine am_if_eqB (tgt := 123) d_Ct_orderOuts_81 (by decide) (fun q1 => ?_) (fun q1 => ?_) | refine am_if_eqN (tgt := 123) d_Ct_orderOuts_81 (by decide) (by omega) (fun q1 => ?_) (fun q1 => ?_) | refine am_if_eq (tgt := 123) d_Ct_orderOuts_81 (by decide) (fun q1 => ?_) (fun q1 => ?_)
      · first | refine am_iincN (b := 1) (L1 := [_, _, _, _, _, _, _, _]) d_Ct_orderOuts_123 rfl (by decide) (by decide) rfl ?_ | refine am_iinc (L1 := [_, _, _, _, _, _, _, _]) d_Ct_orderOuts_123 rfl rfl (by decide) rfl ?_
        refine am_goto (tgt := 3) d_Ct_orderOuts_126 (by decide) ?_
        first
          | (have hz : ¬ (fc_bits s1.1 i port u 4 ≠ 0 ∧ (s1.1 (30 + u)).length < 16) := by first | exact (fun z => z.1 (by assumption)) | exact (fun z => absurd z.2 (by omega))
             rw [if_neg hz] at es
             exact ih (u + 1) s1 _ _ _ _ (by omega) es.symm (by omega) (by omega) hS1 hf1)
          | (have hz : fc_bits s1.1 i port u 4 ≠ 0 ∧ (s1.1 (30 + u)).length < 16 := ⟨by assumption, by omega⟩
             rw [if_pos hz] at es
             exact ih (u + 1) s4 _ _ _ _ (by omega) (by rw [es, e4, e3]) (by omega) (by omega) hS4 ((hf1.trans hf3).trans hf4))
      · refine am_aload_n d_Ct_orderOuts_84 rfl (by first | exact am_rvR _ | exact am_rvN | assumption) ?_
        refine am_get d_Ct_orderOuts_85 f_Ct_9 (cl_ctl hS1) (by rfl) ?_
        refine am_iload d_Ct_orderOuts_88 rfl ?_
        refine am_aald d_Ct_orderOuts_90 am_kN_ok rfl (cl_nodes hS1) rfl (cl_nodes_at hu) (by simp; omega) ?_
        refine am_get d_Ct_orderOuts_91 f_Ct_118 (cl_node hS1 hu) (by rfl) ?_
        refine am_cV (b := A (30 + u)) d_Ct_orderOuts_94 v_Ct_123 (vs := []) (st := []) rfl rfl (by decide) (Nat.le_of_ble_eq_true rfl) (cl_list hS1 hL).1.choose_spec.choose_spec.choose_spec.choose_spec.1 (cl_size hS1 hL) ?_
        rintro v S1 ⟨rfl, rfl⟩
        refine am_bipush (v := nI 16) d_Ct_orderOuts_97 (by decide) ?_
        first | refine am_icmp_geN (tgt := 123) d_Ct_orderOuts_99 (by decide) (by omega) (by omega) (fun q2 => ?_) (fun q2 => ?_) | refine am_icmp_ge (tgt := 123) d_Ct_orderOuts_99 (by decide) (fun q2 => ?_) (fun q2 => ?_)
        · first | refine am_iincN (b := 1) (L1 := [_, _, _, _, _, _, _, _]) d_Ct_orderOuts_123 rfl (by decide) (by decide) rfl ?_ | refine am_iinc (L1 := [_, _, _, _, _, _, _, _]) d_Ct_orderOuts_123 rfl rfl (by decide) rfl ?_
          refine am_goto (tgt := 3) d_Ct_orderOuts_126 (by decide) ?_
          first
            | (have hz : ¬ (fc_bits s1.1 i port u 4 ≠ 0 ∧ (s1.1 (30 + u)).length < 16) := by first | exact (fun z => z.1 (by assumption)) | exact (fun z => absurd z.2 (by omega))
               rw [if_neg hz] at es
               exact ih (u + 1) s1 _ _ _ _ (by omega) es.symm (by omega) (by omega) hS1 hf1)
            | (have hz : fc_bits s1.1 i port u 4 ≠ 0 ∧ (s1.1 (30 + u)).length < 16 := ⟨by assumption, by omega⟩
               rw [if_pos hz] at es
               exact ih (u + 1) s4 _ _ _ _ (by omega) (by rw [es, e4, e3]) (by omega) (by omega) hS4 ((hf1.trans hf3).trans hf4))
        · refine am_aload_n d_Ct_orderOuts_102 rfl (by first | exact am_rvR _ | exact am_rvN | assumption) ?_
          refine am_get d_Ct_orderOuts_103 f_Ct_9 (cl_ctl hS1) (by rfl) ?_
          refine am_iload d_Ct_orderOuts_106 rfl ?_
          refine am_aald d_Ct_orderOuts_108 am_kN_ok rfl (cl_nodes hS1) rfl (cl_nodes_at hu) (by simp; omega) ?_
          refine am_get d_Ct_orderOuts_109 f_Ct_118 (cl_node hS1 hu) (by rfl) ?_
          refine am_iconst (v := (3 : Int32)) d_Ct_orderOuts_112 (by decide) ?_
          refine am_iload d_Ct_orderOuts_113 rfl ?_
          refine am_aload_n d_Ct_orderOuts_115 rfl (by first | exact am_rvR _ | exact am_rvN | assumption) ?_
          refine am_cS d_Ct_orderOuts_116 s_Ct_127 (vs := [.int 3, .int (fc_bits s1.1 i port u 4), .ref dd]) (st := [.ref (A (30 + u))]) rfl rfl (by decide) (Nat.le_of_ble_eq_true rfl) (mk_ofDatagram 3 (fc_bits s1.1 i port u 4) hS1.1.1 hd1) ?_
          rintro v S3 ⟨rfl, rfl⟩
          obtain ⟨s3, e3, ⟨-, b31, b32⟩, hS3, hf3, hm3⟩ := cl_newQ hS1 (c := 30 + u) (by omega) (by omega) 3 (fc_bits s1.1 i port u 4) f t nr
          refine am_cV (b := A (30 + u)) d_Ct_orderOuts_119 v_Ct_131 (vs := [.ref _]) (st := []) rfl rfl (by decide) (Nat.le_of_ble_eq_true rfl) (cl_list hS3 hL).1.choose_spec.choose_spec.choose_spec.choose_spec.1 (cl_addQ (row := [3, fc_bits s1.1 i port u 4, f, t, nr]) hn he hS3 hL (by rw [e3]; omega) hm3 (fun z => by omega)) ?_
          rintro v S4 ⟨rfl, s4, e4, ⟨-, b41, b42⟩, hS4, hf4⟩
          refine am_pop d_Ct_orderOuts_122 rfl ?_
          first | refine am_iincN (b := 1) (L1 := [_, _, _, _, _, _, _, _]) d_Ct_orderOuts_123 rfl (by decide) (by decide) rfl ?_ | refine am_iinc (L1 := [_, _, _, _, _, _, _, _]) d_Ct_orderOuts_123 rfl rfl (by decide) rfl ?_
          refine am_goto (tgt := 3) d_Ct_orderOuts_126 (by decide) ?_
          first
            | (have hz : ¬ (fc_bits s1.1 i port u 4 ≠ 0 ∧ (s1.1 (30 + u)).length < 16) := by first | exact (fun z => z.1 (by assumption)) | exact (fun z => absurd z.2 (by omega))
               rw [if_neg hz] at es
               exact ih (u + 1) s1 _ _ _ _ (by omega) es.symm (by omega) (by omega) hS1 hf1)
            | (have hz : fc_bits s1.1 i port u 4 ≠ 0 ∧ (s1.1 (30 + u)).length < 16 := ⟨by assumption, by omega⟩
               rw [if_pos hz] at es
               exact ih (u + 1) s4 _ _ _ _ (by omega) (by rw [es, e4, e3]) (by omega) (by omega) hS4 ((hf1.trans hf3).trans hf4))
  refine am_Mof (L0 := [some (.ref (A 2)), some (.int (nI i)), some (.int port), some (.ref dd), none, none, none, none]) pl_Ct_orderOuts (am_k1 rfl (am_k1 rfl (am_k1 rfl (am_k1 rfl am_k0)))) (Nat.le_of_ble_eq_true rfl) rfl ?_
  refine am_iconst (v := nI 0) d_Ct_orderOuts_0 (by decide) ?_
  refine am_istore (L1 := [_, _, _, _, _, _, _, _]) d_Ct_orderOuts_1 (by decide) rfl ?_
  exact key ns 0 s S _ _ _ (Nat.zero_add _) rfl (Nat.le_refl _) (Nat.le_refl _) hS (am_fr.refl _ _)
end CTH
