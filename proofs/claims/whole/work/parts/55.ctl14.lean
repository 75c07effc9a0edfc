/-! the class: a datagram is missed -/
section CTN
variable {g : am_G} {e nw ns room idle : Nat} {A : Nat → Nat} {s : cl_S} {S : am_S}
theorem fc_cix_eq {s : fc_S} {k : Nat} {x z : Int32} {row : List Int32} (h : fc_cix s x z = some k) (hr : (s 7)[k]? = some row) : row.getD 0 0 = x ∧ row.getD 1 0 = z := by
  unfold fc_cix at h
  rw [List.findIdx?_eq_some_iff_getElem] at h
  obtain ⟨h1, h2, -⟩ := h
  rw [List.getElem?_eq_getElem h1] at hr
  cases hr
  rw [Bool.and_eq_true] at h2
  exact ⟨beq_iff_eq.mp h2.1, beq_iff_eq.mp h2.2⟩
/-- a datagram is missed, its place is known -/
def fc_mis2 (ns : Nat) (s : fc_S) (i : Nat) (port f t nr : Int32) : fc_S :=
  match fc_cix s f t with
  | some k => if fc_get s 7 k 2 = 3 then fc_clr (fc_put (fc_put s 7 k 6 1) 7 k 7 nr) k else fc_put (fc_put s 7 k 6 1) 7 k 7 nr
  | none => if fc_get s 5 0 t.toNatClampNeg = -1 then fc_flood s i port f t nr ns else fc_make ns s f t nr
theorem fc_miss_2 (ns : Nat) (s : fc_S) (i : Nat) (port f t nr : Int32) : fc_miss ns s i port f t nr = fc_mis2 ns (if port ≠ 4 ∧ fc_get s 4 0 (4 * i + port.toNatClampNeg) = 0 then fc_put s 5 0 f.toNatClampNeg (nI (4 * i + port.toNatClampNeg)) else s) i port f t nr := rfl
theorem fc_putk {s : fc_S} {k : Nat} {f t st wv aw ld kp kn : Int32} {way : List Int32} (hr : (s 7)[k]? = some ([f, t, st, wv, aw, ld, kp, kn] ++ way)) (nr : Int32) : fc_put (fc_put s 7 k 6 1) 7 k 7 nr = fc_up s 7 ((s 7).set k ([f, t, st, wv, aw, ld, 1, nr] ++ way)) := by
  have hk := (List.getElem?_eq_some_iff.mp hr).1
  rw [fc_put_row hr, fc_put_row (row := [f, t, st, wv, aw, ld, 1, kn] ++ way) (by rw [fc_up_same, List.getElem?_set_self hk]; rfl), fc_up_same, fc_up_twice, List.set_set]
  rfl
theorem ct_mis2 (hn : ns ≤ 5) (he : am_gE g e) (hW : am_gW g nw) (hS : cl_P e nw ns room idle A s S) (I : fc_iK ns s.1) (Io : fc_iO ns s.1) {i p f t dd : Nat} {nr : Int32} {post : Option Value → am_S → Prop} (hi : i < ns) (hf : f < 6) (ht : t < 6) (hd : S.1 dd = some (0, .inr (am_cDg, [.int (nI f), .int (nI t), .int nr]))) (hlen : ∀ u, u < ns → (s.1 (30 + u)).length + 2 < 60) (hlen2 : ∀ u, u < ns → (fc_mis2 ns s.1 i (nI p) (nI f) (nI t) nr (30 + u)).length ≤ 59) (hp : ∀ S', cl_Q e nw ns room idle A s S (fc_mis2 ns s.1 i (nI p) (nI f) (nI t) nr) 12 910 S' → post none S') : am_W g y_Ct_handleMiss 9 198 post 32 [some (.ref (A 2)), some (.int (nI i)), some (.int (nI p)), some (.ref dd), none] [] S := by
  obtain ⟨-, -, -, ⟨pl, h5, h5l, h5e⟩⟩ := id Io
  have h5c := cl_at5 hS h5
  have hgt := fc_get3 h5 t
  refine am_aload_n d_Ct_handleMiss_32 rfl (by first | exact am_rvR _ | exact am_rvN | assumption) ?_
  refine am_aload_n d_Ct_handleMiss_33 rfl (by first | exact am_rvR _ | exact am_rvN | assumption) ?_
  refine am_get d_Ct_handleMiss_34 f_Ct_90 hd (by rfl) ?_
  refine am_aload_n d_Ct_handleMiss_37 rfl (by first | exact am_rvR _ | exact am_rvN | assumption) ?_
  refine am_get d_Ct_handleMiss_38 f_Ct_93 hd (by rfl) ?_
  refine am_cV (b := A 2) d_Ct_handleMiss_41 v_Ct_94 (vs := [.int (nI f), .int (nI t)]) (st := []) rfl rfl (by decide) (Nat.le_of_ble_eq_true rfl) (cl_ctl hS) (ct_courseOf hS I (nI f) (nI t)) ?_
  rintro v S9 ⟨rfl, hS9⟩
  rw [hS9]
  skip
  cases hx : fc_cix s.1 (nI f) (nI t) with
  | none =>
    have em : fc_mis2 ns s.1 i (nI p) (nI f) (nI t) nr = if pl.getD t 0 = -1 then fc_flood s.1 i (nI p) (nI f) (nI t) nr ns else fc_make ns s.1 (nI f) (nI t) nr := by
      unfold fc_mis2
      rw [hx]
      show (if fc_get s.1 5 0 (nI t).toNatClampNeg = -1 then _ else _) = _
      rw [nI_clamp (by omega), hgt]
    refine am_astore (L1 := [_, _, _, _, _]) d_Ct_handleMiss_44 (by decide) am_rvN rfl ?_
    refine am_aload d_Ct_handleMiss_46 rfl (by first | exact am_rvR _ | exact am_rvN | assumption) ?_
    refine am_ifnullN (tgt := 75) d_Ct_handleMiss_48 (by decide) ?_
    refine am_aload_n d_Ct_handleMiss_75 rfl (by first | exact am_rvR _ | exact am_rvN | assumption) ?_
    refine am_get d_Ct_handleMiss_76 f_Ct_23 (cl_ctl hS) (by rfl) ?_
    refine am_aload_n d_Ct_handleMiss_79 rfl (by first | exact am_rvR _ | exact am_rvN | assumption) ?_
    refine am_get d_Ct_handleMiss_80 f_Ct_93 hd (by rfl) ?_
    refine am_iald (j := t) d_Ct_handleMiss_83 am_kI_ok h5c rfl (cl_fld (by omega)) (by simp; omega) ?_
    refine am_iconst (v := (-1)) d_Ct_handleMiss_84 (by decide) ?_
    first | refine am_icmp_neN (tgt := 98) d_Ct_handleMiss_85 (by decide) (by omega) (by omega) (fun q1 => ?_) (fun q1 => ?_) | refine am_icmp_ne (tgt := 98) d_Ct_handleMiss_85 (by decide) (fun q1 => ?_) (fun q1 => ?_)
    · refine am_aload_n d_Ct_handleMiss_98 rfl (by first | exact am_rvR _ | exact am_rvN | assumption) ?_
      refine am_aload_n d_Ct_handleMiss_99 rfl (by first | exact am_rvR _ | exact am_rvN | assumption) ?_
      refine am_cV (b := A 2) d_Ct_handleMiss_100 v_Ct_114 (vs := [.ref dd]) (st := []) rfl rfl (by decide) (Nat.le_of_ble_eq_true rfl) (cl_ctl hS) (ct_make hn he hW hS I Io hf ht hd hlen) ?_
      rintro v S3 ⟨rfl, hq3⟩
      refine am_vret d_Ct_handleMiss_103 rfl ?_
      refine hp _ ?_
      rw [em]
      first
        | (rw [if_pos (by assumption)]; exact hq3.wide (by omega) (by omega))
        | (rw [if_neg (by assumption)]; exact hq3.wide (by omega) (by omega))
    · refine am_aload_n d_Ct_handleMiss_88 rfl (by first | exact am_rvR _ | exact am_rvN | assumption) ?_
      refine am_iload_n d_Ct_handleMiss_89 rfl ?_
      refine am_iload_n d_Ct_handleMiss_90 rfl ?_
      refine am_aload_n d_Ct_handleMiss_91 rfl (by first | exact am_rvR _ | exact am_rvN | assumption) ?_
      refine am_cV (b := A 2) d_Ct_handleMiss_92 v_Ct_111 (vs := [.int (nI i), .int (nI p), .ref dd]) (st := []) rfl rfl (by decide) (Nat.le_of_ble_eq_true rfl) (cl_ctl hS) (ct_outs hn he hS Io hi hd (fun u hu => by have := hlen u hu; omega)) ?_
      rintro v S3 ⟨rfl, hq3⟩
      refine am_goto (tgt := 103) d_Ct_handleMiss_95 (by decide) ?_
      refine am_vret d_Ct_handleMiss_103 rfl ?_
      refine hp _ ?_
      rw [em]
      first
        | (rw [if_pos (by assumption)]; exact hq3.wide (by omega) (by omega))
        | (rw [if_neg (by assumption)]; exact hq3.wide (by omega) (by omega))
  | some k =>
    have hk := fc_cix_some hx
    obtain ⟨a, w, f', t', l, kv, st, wv, aw, kp, kn, way, ha, hr, ho, hw, hkv, hf6, ht6, hst, hkp, hw1, hw5, hlw, hway⟩ := cl_cr hS I hk
    obtain ⟨ef, et⟩ := fc_cix_eq hx hr
    replace ef : nI f' = nI f := ef
    replace et : nI t' = nI t := et
    rw [ef, et] at hr ho
    have hgv : cl_cv s (some k) = Value.ref a := by
      show Value.ref ((s.2.1 7).getD k 0) = _
      rw [List.getD_eq_getElem?_getD, ha]
      rfl
    rw [hgv]
    have ho0 : S.1 a = some (73, .inr (am_cCo, [.int (nI f), .int (nI t), .int st, .ref w, kv, .int wv, .int aw, .int (nI l)])) := ho
    have em : fc_mis2 ns s.1 i (nI p) (nI f) (nI t) nr = if st = 3 then fc_clr (fc_put (fc_put s.1 7 k 6 1) 7 k 7 nr) k else fc_put (fc_put s.1 7 k 6 1) 7 k 7 nr := by
      unfold fc_mis2
      rw [hx]
      simp only [fc_get_row hr]
      rfl
    obtain ⟨s1, e1, b1, hS1, hf1⟩ := cl_setQ (kv := .ref dd) (st := st) (wv := wv) (aw := aw) (ld := nI l) (kp := 1) (kn := nr) hS ha hk ho0 hw (Or.inr ⟨by decide, dd, rfl, hd⟩)
    have ho1 := am_up_at S a 73 (.inr (am_cCo, [.int (nI f), .int (nI t), .int st, .ref w, .ref dd, .int wv, .int aw, .int (nI l)]))
    obtain ⟨S1, eS1⟩ : ∃ S1, S1 = am_up S a 73 (.inr (am_cCo, [.int (nI f), .int (nI t), .int st, .ref w, .ref dd, .int wv, .int aw, .int (nI l)])) := ⟨_, rfl⟩
    rw [← eS1] at hS1 hf1 ho1
    have I1 : fc_iK ns s1.1 := by rw [e1]; exact I.set ⟨f, t, l, st, wv, aw, 1, nr, way, hf, ht, rfl, hst, Or.inr rfl, hw1, hw5, hlw, hway⟩
    have Io1 : fc_iO ns s1.1 := by rw [e1]; exact Io.up7 _
    rw [fc_putk hr, ← e1] at em
    refine am_astore (L1 := [_, _, _, _, _]) d_Ct_handleMiss_44 (by decide) (am_rvR _) rfl ?_
    refine am_aload d_Ct_handleMiss_46 rfl (by first | exact am_rvR _ | exact am_rvN | assumption) ?_
    refine am_ifnull d_Ct_handleMiss_48 ?_
    refine am_aload d_Ct_handleMiss_51 rfl (by first | exact am_rvR _ | exact am_rvN | assumption) ?_
    refine am_aload_n d_Ct_handleMiss_53 rfl (by first | exact am_rvR _ | exact am_rvN | assumption) ?_
    refine am_put _ d_Ct_handleMiss_54 f_Ct_98 (p_Ct_98 _) ho0 (by decide) rfl rfl ?_
    show am_W g _ _ _ _ _ _ _ (am_up S a 73 (.inr (am_cCo, [.int (nI f), .int (nI t), .int st, .ref w, .ref dd, .int wv, .int aw, .int (nI l)])))
    rw [← eS1]
    refine am_aload d_Ct_handleMiss_57 rfl (by first | exact am_rvR _ | exact am_rvN | assumption) ?_
    refine am_get d_Ct_handleMiss_59 f_Ct_104 ho1 (by rfl) ?_
    refine am_iconst (v := (3 : Int32)) d_Ct_handleMiss_62 (by decide) ?_
    first | refine am_icmp_neN (tgt := 103) d_Ct_handleMiss_63 (by decide) (by omega) (by omega) (fun q1 => ?_) (fun q1 => ?_) | refine am_icmp_ne (tgt := 103) d_Ct_handleMiss_63 (by decide) (fun q1 => ?_) (fun q1 => ?_)
    · refine am_vret d_Ct_handleMiss_103 rfl ?_
      refine hp _ ?_
      rw [em]
      first
        | (rw [if_pos (by assumption)]; exact hq3.from hf1 (by rw [b1]; omega) (by rw [b1]; omega))
        | (rw [if_neg (by assumption)]; exact ⟨s1, rfl, ⟨by rw [b1]; omega, by rw [b1]; omega⟩, hS1, hf1⟩)
    · refine am_aload_n d_Ct_handleMiss_66 rfl (by first | exact am_rvR _ | exact am_rvN | assumption) ?_
      refine am_aload d_Ct_handleMiss_67 rfl (by first | exact am_rvR _ | exact am_rvN | assumption) ?_
      refine am_cV (b := A 2) d_Ct_handleMiss_69 v_Ct_107 (vs := [.ref a]) (st := []) rfl rfl (by decide) (Nat.le_of_ble_eq_true rfl) (cl_ctl hS1) (ct_clr hn he hS1 I1 Io1 (by rw [b1]; exact ha) (fun u hu => by have z := hlen2 u hu; rw [em, if_pos (by assumption)] at z; exact z)) ?_
      rintro v S3 ⟨rfl, hq3⟩
      refine am_goto (tgt := 103) d_Ct_handleMiss_72 (by decide) ?_
      refine am_vret d_Ct_handleMiss_103 rfl ?_
      refine hp _ ?_
      rw [em]
      first
        | (rw [if_pos (by assumption)]; exact hq3.from hf1 (by rw [b1]; omega) (by rw [b1]; omega))
        | (rw [if_neg (by assumption)]; exact ⟨s1, rfl, ⟨by rw [b1]; omega, by rw [b1]; omega⟩, hS1, hf1⟩)
theorem ct_miss (hn : ns ≤ 5) (he : am_gE g e) (hW : am_gW g nw) (hS : cl_P e nw ns room idle A s S) (I : fc_iK ns s.1) (Io : fc_iO ns s.1) {i p f t dd : Nat} {nr : Int32} (hi : i < ns) (hp : p ≤ 4) (hf : f < 6) (ht : t < 6) (hd : S.1 dd = some (0, .inr (am_cDg, [.int (nI f), .int (nI t), .int nr]))) (hlen : ∀ u, u < ns → (s.1 (30 + u)).length + 2 < 60) (hlen2 : ∀ u, u < ns → (fc_miss ns s.1 i (nI p) (nI f) (nI t) nr (30 + u)).length ≤ 59) : am_M g y_Ct_handleMiss "(IILFlowFabric$Datagram;)V" 9 198 [.ref (A 2), .int (nI i), .int (nI p), .ref dd] S (fun v S' => v = none ∧ cl_Q e nw ns room idle A s S (fc_miss ns s.1 i (nI p) (nI f) (nI t) nr) 12 910 S') := by
  obtain ⟨g2, g3, ⟨mk, h4, h4l, h4e⟩, ⟨pl, h5, h5l, h5e⟩⟩ := id Io
  have h4c := cl_at4 hS h4
  have h5c := cl_at5 hS h5
  have hgm := fc_get3 h4 (4 * i + p)
  have em := fc_miss_2 ns s.1 i (nI p) (nI f) (nI t) nr
  rw [nI_clamp (n := p) (by omega), nI_clamp (n := f) (by omega)] at em
  obtain ⟨s1, e1, b1, hS1, hf1⟩ := cl_setA (row' := pl.set f (nI (4 * i + p))) hS (Or.inr (Or.inr ⟨rfl, rfl⟩)) h5c
  have ep : fc_put s.1 5 0 f (nI (4 * i + p)) = s1.1 := by
    rw [e1, fc_put_row (row := pl) (by rw [h5]; rfl), h5]
    rfl
  have I1 : fc_iK ns s1.1 := I.same (by rw [e1, fc_up_ne _ (by omega)])
  have n4 : nI p = 4 ↔ p = 4 := nI_eq (b := 4) (by omega) (by omega)
  refine am_Mof (L0 := [some (.ref (A 2)), some (.int (nI i)), some (.int (nI p)), some (.ref dd), none]) pl_Ct_handleMiss (am_k1 rfl (am_k1 rfl (am_k1 rfl (am_k1 rfl am_k0)))) (Nat.le_of_ble_eq_true rfl) rfl ?_
  refine am_iload_n d_Ct_handleMiss_0 rfl ?_
  refine am_iconst (v := nI 4) d_Ct_handleMiss_1 (by decide) ?_
  first | refine am_icmp_eqN (tgt := 32) d_Ct_handleMiss_2 (by decide) (by omega) (by omega) (fun q1 => ?_) (fun q1 => ?_) | refine am_icmp_eq (tgt := 32) d_Ct_handleMiss_2 (by decide) (fun q1 => ?_) (fun q1 => ?_)
  · first
      | (rw [if_neg (by first | exact (fun z => z.1 (n4.mpr (by assumption))) | exact (fun z => absurd (hgm.symm.trans z.2) (by assumption)))] at em
         exact ct_mis2 hn he hW hS I Io hi hf ht hd hlen (by rw [← em]; exact hlen2) (fun S' h => ⟨rfl, by rw [em]; exact h⟩))
      | (have hp4 : p < 4 := by omega
         rw [if_pos ⟨fun z => absurd (n4.mp z) (by omega), hgm.trans (by assumption)⟩, ep] at em
         have Io1 : fc_iO ns s1.1 := by
           rw [e1]
           refine ⟨by rw [fc_up_ne _ (by omega)]; exact g2, by rw [fc_up_ne _ (by omega)]; exact g3, ⟨mk, by rw [fc_up_ne _ (by omega)]; exact h4, h4l, h4e⟩, ⟨_, fc_up_same _ _ _, by rw [List.length_set]; exact h5l, fun x hx => ?_⟩⟩
           rcases List.mem_or_eq_of_mem_set hx with h1 | h1
           · exact h5e x h1
           · exact Or.inr ⟨4 * i + p, by omega, h1⟩
         exact ct_mis2 hn he hW hS1 I1 Io1 hi hf ht (hf1.keep hd (fun z => by unfold cl_X at z; omega)) (fun u hu => by rw [e1, fc_up_ne _ (by omega)]; exact hlen u hu) (by rw [← em]; exact hlen2) (fun S' h => ⟨rfl, by rw [em]; exact h.from hf1 (by rw [b1]; omega) (by rw [b1]; omega)⟩))
  · refine am_aload_n d_Ct_handleMiss_5 rfl (by first | exact am_rvR _ | exact am_rvN | assumption) ?_
    refine am_get d_Ct_handleMiss_6 f_Ct_19 (cl_ctl hS) (by rfl) ?_
    refine am_iload_n d_Ct_handleMiss_9 rfl ?_
    refine am_iload_n d_Ct_handleMiss_10 rfl ?_
    refine am_cS d_Ct_handleMiss_11 s_Ct_62 (vs := [.int (nI i), .int (nI p)]) (st := [.ref (A 4)]) rfl rfl (by decide) (Nat.le_of_ble_eq_true rfl) (ff_endOf) ?_
    rintro v S9 ⟨rfl, hS9⟩
    rw [hS9]
    rw [show i * 4 + p = 4 * i + p by omega]
    refine am_zald (j := 4 * i + p) d_Ct_handleMiss_14 am_kZ_ok h4c rfl (cl_fld (by omega)) (by simp; omega) ?_
    first | refine am_if_neB (tgt := 32) d_Ct_handleMiss_15 (by decide) (fun q2 => ?_) (fun q2 => ?_) | refine am_if_neN (tgt := 32) d_Ct_handleMiss_15 (by decide) (by omega) (fun q2 => ?_) (fun q2 => ?_) | refine am_if_ne (tgt := 32) d_Ct_handleMiss_15 (by decide) (fun q2 => ?_) (fun q2 => ?_)
    · first
        | (rw [if_neg (by first | exact (fun z => z.1 (n4.mpr (by assumption))) | exact (fun z => absurd (hgm.symm.trans z.2) (by assumption)))] at em
           exact ct_mis2 hn he hW hS I Io hi hf ht hd hlen (by rw [← em]; exact hlen2) (fun S' h => ⟨rfl, by rw [em]; exact h⟩))
        | (have hp4 : p < 4 := by omega
           rw [if_pos ⟨fun z => absurd (n4.mp z) (by omega), hgm.trans (by assumption)⟩, ep] at em
           have Io1 : fc_iO ns s1.1 := by
             rw [e1]
             refine ⟨by rw [fc_up_ne _ (by omega)]; exact g2, by rw [fc_up_ne _ (by omega)]; exact g3, ⟨mk, by rw [fc_up_ne _ (by omega)]; exact h4, h4l, h4e⟩, ⟨_, fc_up_same _ _ _, by rw [List.length_set]; exact h5l, fun x hx => ?_⟩⟩
             rcases List.mem_or_eq_of_mem_set hx with h1 | h1
             · exact h5e x h1
             · exact Or.inr ⟨4 * i + p, by omega, h1⟩
           exact ct_mis2 hn he hW hS1 I1 Io1 hi hf ht (hf1.keep hd (fun z => by unfold cl_X at z; omega)) (fun u hu => by rw [e1, fc_up_ne _ (by omega)]; exact hlen u hu) (by rw [← em]; exact hlen2) (fun S' h => ⟨rfl, by rw [em]; exact h.from hf1 (by rw [b1]; omega) (by rw [b1]; omega)⟩))
    · refine am_aload_n d_Ct_handleMiss_18 rfl (by first | exact am_rvR _ | exact am_rvN | assumption) ?_
      refine am_get d_Ct_handleMiss_19 f_Ct_23 (cl_ctl hS) (by rfl) ?_
      refine am_aload_n d_Ct_handleMiss_22 rfl (by first | exact am_rvR _ | exact am_rvN | assumption) ?_
      refine am_get d_Ct_handleMiss_23 f_Ct_90 hd (by rfl) ?_
      refine am_iload_n d_Ct_handleMiss_26 rfl ?_
      refine am_iload_n d_Ct_handleMiss_27 rfl ?_
      refine am_cS d_Ct_handleMiss_28 s_Ct_62 (vs := [.int (nI i), .int (nI p)]) (st := [.int (nI f), .ref (A 5)]) rfl rfl (by decide) (Nat.le_of_ble_eq_true rfl) (ff_endOf) ?_
      rintro v S9 ⟨rfl, hS9⟩
      rw [hS9]
      rw [show i * 4 + p = 4 * i + p by omega]
      refine am_iast (j := f) d_Ct_handleMiss_31 am_kI_ok h5c (by decide) rfl (by simp; omega) (by simp; omega) ?_
      rw [am_setmap]
      first
        | (rw [if_neg (by first | exact (fun z => z.1 (n4.mpr (by assumption))) | exact (fun z => absurd (hgm.symm.trans z.2) (by assumption)))] at em
           exact ct_mis2 hn he hW hS I Io hi hf ht hd hlen (by rw [← em]; exact hlen2) (fun S' h => ⟨rfl, by rw [em]; exact h⟩))
        | (have hp4 : p < 4 := by omega
           rw [if_pos ⟨fun z => absurd (n4.mp z) (by omega), hgm.trans (by assumption)⟩, ep] at em
           have Io1 : fc_iO ns s1.1 := by
             rw [e1]
             refine ⟨by rw [fc_up_ne _ (by omega)]; exact g2, by rw [fc_up_ne _ (by omega)]; exact g3, ⟨mk, by rw [fc_up_ne _ (by omega)]; exact h4, h4l, h4e⟩, ⟨_, fc_up_same _ _ _, by rw [List.length_set]; exact h5l, fun x hx => ?_⟩⟩
             rcases List.mem_or_eq_of_mem_set hx with h1 | h1
             · exact h5e x h1
             · exact Or.inr ⟨4 * i + p, by omega, h1⟩
           exact ct_mis2 hn he hW hS1 I1 Io1 hi hf ht (hf1.keep hd (fun z => by unfold cl_X at z; omega)) (fun u hu => by rw [e1, fc_up_ne _ (by omega)]; exact hlen u hu) (by rw [← em]; exact hlen2) (fun S' h => ⟨rfl, by rw [em]; exact h.from hf1 (by rw [b1]; omega) (by rw [b1]; omega)⟩))
end CTN
