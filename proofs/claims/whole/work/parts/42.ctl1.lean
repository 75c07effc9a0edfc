/-! the class: courses -/
section CTA
variable {g : am_G} {e nw ns room idle : Nat} {A : Nat → Nat} {s : cl_S} {S : am_S}
/-- a course's object: its way at w, what it keeps -/
def cl_cow (a w : Nat) (kv : Value) (f t st wv aw ld : Int32) (S : am_S) : Prop := S.1 a = some (73, .inr (am_cCo, [.int f, .int t, .int st, .ref w, kv, .int wv, .int aw, .int ld]))
def cl_kv (kv : Value) (f t kp kn : Int32) (S : am_S) : Prop := (kp = 0 ∧ kv = .null) ∨ (kp ≠ 0 ∧ ∃ b, kv = .ref b ∧ S.1 b = some (0, .inr (am_cDg, [.int f, .int t, .int kn])))
theorem cl_co_iff {a : Nat} {f t st wv aw ld kp kn : Int32} {way : List Int32} : cl_co a ([f, t, st, wv, aw, ld, kp, kn] ++ way) S ↔ ∃ w kv, cl_cow a w kv f t st wv aw ld S ∧ S.1 w = some (0, .inl (am_kI, way.map Value.int)) ∧ cl_kv kv f t kp kn S := by
  constructor
  · rintro ⟨-, w, kv, h1, h2, h3⟩
    exact ⟨w, kv, h1, h2, h3⟩
  · rintro ⟨w, kv, h1, h2, h3⟩
    exact ⟨by simp, w, kv, h1, h2, h3⟩
theorem cl_kv.rv {kv : Value} {f t kp kn : Int32} (h : cl_kv kv f t kp kn S) : am_rv kv := by
  rcases h with ⟨-, rfl⟩ | ⟨-, b, rfl, -⟩
  · exact am_rvN
  · exact am_rvR b
theorem cl_kv.fr {kv : Value} {f t kp kn : Int32} {S' : am_S} {X : Nat → Prop} (h : cl_kv kv f t kp kn S) (hf : am_fr X S S') (hX : ¬ X 0) : cl_kv kv f t kp kn S' := by
  rcases h with h | ⟨h1, b, h2, h3⟩
  · exact Or.inl h
  · exact Or.inr ⟨h1, b, h2, hf.keep h3 hX⟩
/-- the k-th course -/
theorem cl_cr (hS : cl_P e nw ns room idle A s S) (I : fc_iK ns s.1) {k : Nat} (hk : k < (s.1 7).length) : ∃ (a w f t l : Nat) (kv : Value) (st wv aw kp kn : Int32) (way : List Int32), (s.2.1 7)[k]? = some a ∧ (s.1 7)[k]? = some ([nI f, nI t, st, wv, aw, nI l, kp, kn] ++ way) ∧ cl_cow a w kv (nI f) (nI t) st wv aw (nI l) S ∧ S.1 w = some (0, .inl (am_kI, way.map Value.int)) ∧ cl_kv kv (nI f) (nI t) kp kn S ∧ f < 6 ∧ t < 6 ∧ (st = 1 ∨ st = 2 ∨ st = 3) ∧ (kp = 0 ∨ kp = 1) ∧ 1 ≤ way.length ∧ way.length ≤ 5 ∧ l < way.length ∧ ∀ x ∈ way, ∃ m, m < 4 * ns ∧ x = nI m := by
  obtain ⟨a, row, ha, hr, hel⟩ := cl_at (cl_list hS (c := 7) (Or.inl rfl)).2 hk
  obtain ⟨f, t, l, st, wv, aw, kp, kn, way, h1, h2, rfl, h3, h4, h5, h6, h7, h8⟩ := I.2 row (List.mem_of_getElem? hr)
  have hel' : cl_co a ([nI f, nI t, st, wv, aw, nI l, kp, kn] ++ way) S := by
    unfold cl_el at hel
    rw [if_neg (by decide), if_pos rfl] at hel
    exact hel
  obtain ⟨w, kv, g1, g2, g3⟩ := cl_co_iff.mp hel'
  exact ⟨a, w, f, t, l, kv, st, wv, aw, kp, kn, way, ha, hr, g1, g2, g3, h1, h2, h3, h4, h5, h6, h7, h8⟩
/-- a course's object changes -/
theorem cl_setco (hS : cl_P e nw ns room idle A s S) {k a : Nat} {x x' : am_K} {row' : List Int32} (ha : (s.2.1 7)[k]? = some a) (hk : k < (s.1 7).length) (hx : S.1 a = some (73, x)) (hco : cl_co a row' (am_up S a 73 x')) :
    cl_P e nw ns room idle A (cl_st s (fc_up s.1 7 ((s.1 7).set k row'))) (am_up S a 73 x') ∧ am_fr cl_X S (am_up S a 73 x') := by
  have hl7 := cl_list hS (c := 7) (Or.inl rfl)
  have hels := hl7.2
  have hf : am_fr (fun t => t = 73) S (am_up S a 73 x') := am_fr.up hx rfl
  refine ⟨?_, am_fr.up hx (by unfold cl_X; omega)⟩
  have hels' : cl_els (cl_st s (fc_up s.1 7 ((s.1 7).set k row'))) 7 (am_up S a 73 x') := by
    refine ⟨?_, hels.2.1, fun j b r hb hrr => ?_⟩
    · show (s.2.1 7).length = (fc_up s.1 7 ((s.1 7).set k row') 7).length
      rw [fc_up_same, List.length_set]
      exact hels.1
    · have hrr' : ((s.1 7).set k row')[j]? = some r := by
        have : (fc_up s.1 7 ((s.1 7).set k row') 7)[j]? = some r := hrr
        rw [fc_up_same] at this
        exact this
      have hb' : (s.2.1 7)[j]? = some b := hb
      unfold cl_el
      rw [if_neg (by decide), if_pos rfl]
      by_cases ej : j = k
      · subst ej
        have eb : b = a := Option.some.inj (hb'.symm.trans ha)
        subst eb
        rw [List.getElem?_set_self hk] at hrr'
        cases hrr'
        exact hco
      · rw [List.getElem?_set_ne (Ne.symm ej)] at hrr'
        have hne : b ≠ a := by
          rintro rfl
          exact ej (am_nd (hels.2.1 (by decide)) hb' ha)
        have h0 := hels.2.2 j b r hb' hrr'
        unfold cl_el at h0
        rw [if_neg (by decide), if_pos rfl] at h0
        obtain ⟨h1, w, kv, h2, h3, h4⟩ := h0
        refine ⟨h1, w, kv, by rw [am_up_ne _ _ _ hne]; exact h2, hf.keep h3 (by decide), ?_⟩
        rcases h4 with h4 | ⟨h4, b', h5, h6⟩
        · exact Or.inl h4
        · exact Or.inr ⟨h4, b', h5, hf.keep h6 (by decide)⟩
  refine cl_P.upd 7 hS (hf.mono (fun t ht => by unfold cl_Xc; omega)) hS.1.2.1 hS.1.2.2 (fun q hq => ⟨fc_up_ne _ hq, rfl⟩) (fun _ _ _ => rfl) ?_
  refine ⟨fun z => ?_, fun z => ?_, fun z => ?_, fun z => ?_, fun z => ?_, fun z => ?_, fun z => ?_, fun q' hq' z => ?_, fun z => ?_⟩
  rotate_left 8
  · exact ⟨hl7.1.fr hf (by decide) (by decide) (by decide), hels'⟩
  all_goals omega
/-- the controller's waves -/
theorem cl_putW (hS : cl_P e nw ns room idle A s S) {x0 : Int32} (hr : s.1 2 = [[x0]]) (x : Int32) :
    cl_P e nw ns room idle A (cl_st s (fc_put s.1 2 0 0 x)) (am_up S (A 2) 21 (.inr (am_cCt, [.ref (A 8), .ref (A 3), .ref (A 4), .ref (A 5), .ref (A 7), .ref (A 6), .int x]))) ∧ am_fr cl_X S (am_up S (A 2) 21 (.inr (am_cCt, [.ref (A 8), .ref (A 3), .ref (A 4), .ref (A 5), .ref (A 7), .ref (A 6), .int x]))) := by
  have hp := cl_ctl hS
  refine ⟨?_, am_fr.up hp (by unfold cl_X; omega)⟩
  refine cl_P.upd 2 hS (am_fr.up hp (by unfold cl_Xc; omega)) hS.1.2.1 hS.1.2.2 (fun c hc => ⟨fc_put_ne _ _ _ hc, rfl⟩) (fun _ _ _ => rfl) ?_
  refine ⟨fun z => ?_, fun z => ?_, fun _ => ?_, fun z => ?_, fun z => ?_, fun z => ?_, fun z => ?_, fun q' hq' z => ?_, fun z => ?_⟩
  rotate_left 2
  · show (am_up S _ _ _).1 (A 2) = some (21, Sum.inr (am_cCt, [_, _, _, _, _, _, .int (fc_get (fc_put s.1 2 0 0 x) 2 0 0)]))
    rw [am_up_at, fc_get_put (row := [x0]) (by rw [hr]; rfl) 0 x (by show 0 < 1; omega)]
    rfl
  rotate_left 5
  · unfold cl_isL at z
    omega
  all_goals omega
def cl_cv (s : cl_S) (o : Option Nat) : Value := match o with | none => .null | some k => .ref ((s.2.1 7).getD k 0)
theorem ct_courseOf (hS : cl_P e nw ns room idle A s S) (I : fc_iK ns s.1) (x z : Int32) : am_M g y_Ct_courseOf "(II)LFlowFabric$Course;" 3 64 [.ref (A 2), .int x, .int z] S (fun v S' => v = some (cl_cv s (fc_cix s.1 x z)) ∧ S' = S) := by
  have hL : cl_isL ns 7 := Or.inl rfl
  have h6 := I.1
  have hb := (cl_list hS hL).1
  have key : ∀ (m k : Nat) (o4 : Option Value), k + m = (s.1 7).length → (∀ (j : Nat) (r : List Int32), j < k → (s.1 7)[j]? = some r → (r.getD 0 0 == x && r.getD 1 0 == z) = false) → am_W g y_Ct_courseOf 3 64 (fun v S' => v = some (cl_cv s (fc_cix s.1 x z)) ∧ S' = S) 2 [some (.ref (A 2)), some (.int x), some (.int z), some (.int (nI k)), o4] [] S := by
    intro m
    induction m with
    | zero =>
      intro k o4 hk hj
      refine am_iload_n d_Ct_courseOf_2 rfl ?_
      refine am_aload_n d_Ct_courseOf_3 rfl (by first | exact am_rvR _ | exact am_rvN | assumption) ?_
      refine am_get d_Ct_courseOf_4 f_Ct_29 (cl_ctl hS) (by rfl) ?_
      refine am_cV (b := A 7) d_Ct_courseOf_7 v_Ct_123 (vs := []) (st := [.int (nI k)]) rfl rfl (by decide) (Nat.le_of_ble_eq_true rfl) hb.choose_spec.choose_spec.choose_spec.choose_spec.1 (cl_size hS hL) ?_
      rintro v S1 ⟨rfl, rfl⟩
      refine am_icmp_geN (tgt := 53) d_Ct_courseOf_10 (by decide) (by omega) (by omega) (fun _ => ?_) (fun q => absurd q (by omega))
      refine am_null d_Ct_courseOf_53 ?_
      refine am_aret d_Ct_courseOf_54 rfl (Or.inl ⟨_, rfl⟩) (by first | exact am_rvR _ | exact am_rvN) ?_
      refine ⟨?_, rfl⟩
      unfold fc_cix
      rw [fc_ix_none (fun j r hr => hj j r (by have := (List.getElem?_eq_some_iff.mp hr).1; omega) hr)]
      rfl
    | succ m ih =>
      intro k o4 hk hj
      obtain ⟨a, w, f, t, l, kv, st, wv, aw, kp, kn, way, ha, hr, ho, -⟩ := cl_cr hS I (k := k) (by omega)
      have ho' : S.1 a = some (73, .inr (am_cCo, [.int (nI f), .int (nI t), .int st, .ref w, kv, .int wv, .int aw, .int (nI l)])) := ho
      refine am_iload_n d_Ct_courseOf_2 rfl ?_
      refine am_aload_n d_Ct_courseOf_3 rfl (by first | exact am_rvR _ | exact am_rvN | assumption) ?_
      refine am_get d_Ct_courseOf_4 f_Ct_29 (cl_ctl hS) (by rfl) ?_
      refine am_cV (b := A 7) d_Ct_courseOf_7 v_Ct_123 (vs := []) (st := [.int (nI k)]) rfl rfl (by decide) (Nat.le_of_ble_eq_true rfl) hb.choose_spec.choose_spec.choose_spec.choose_spec.1 (cl_size hS hL) ?_
      rintro v S1 ⟨rfl, rfl⟩
      refine am_icmp_geN (tgt := 53) d_Ct_courseOf_10 (by decide) (by omega) (by omega) (fun q => absurd q (by omega)) (fun _ => ?_)
      refine am_aload_n d_Ct_courseOf_13 rfl (by first | exact am_rvR _ | exact am_rvN | assumption) ?_
      refine am_get d_Ct_courseOf_14 f_Ct_29 (cl_ctl hS) (by rfl) ?_
      refine am_iload_n d_Ct_courseOf_17 rfl ?_
      refine am_cV (b := A 7) d_Ct_courseOf_18 v_Ct_148 (vs := [.int (nI k)]) (st := []) rfl rfl (by decide) (Nat.le_of_ble_eq_true rfl) hb.choose_spec.choose_spec.choose_spec.choose_spec.1 (cl_getM hS hL ha) ?_
      rintro v S1 ⟨rfl, rfl⟩
      refine am_cast d_Ct_courseOf_21 k_Ct_99 (q := am_qCo) rfl (Or.inl rfl) ho' ?_
      refine am_astore (L1 := [_, _, _, _, _]) d_Ct_courseOf_24 (by decide) (by first | exact am_rvR _ | exact am_rvN | assumption) rfl ?_
      refine am_aload d_Ct_courseOf_26 rfl (by first | exact am_rvR _ | exact am_rvN | assumption) ?_
      refine am_get d_Ct_courseOf_28 f_Ct_179 ho' (by rfl) ?_
      refine am_iload_n d_Ct_courseOf_31 rfl ?_
      refine am_icmp_ne (tgt := 47) d_Ct_courseOf_32 (by decide) (fun q1 => ?_) (fun q1 => ?_)
      · refine am_iinc (L1 := [_, _, _, _, _]) d_Ct_courseOf_47 rfl rfl (by decide) rfl ?_
        refine am_goto (tgt := 2) d_Ct_courseOf_50 (by decide) ?_
        rw [show nI k + Int32.ofInt 1 = nI (k + 1) from (nI_succ k).symm]
        refine ih (k + 1) _ (by omega) (fun j r hj2 hr2 => ?_)
        by_cases ej : j = k
        · subst ej
          cases hr.symm.trans hr2
          simp only [Bool.and_eq_false_iff, beq_eq_false_iff_ne]
          first | exact Or.inl q1 | exact Or.inr q2
        · exact hj j r (by omega) hr2
      · refine am_aload d_Ct_courseOf_35 rfl (by first | exact am_rvR _ | exact am_rvN | assumption) ?_
        refine am_get d_Ct_courseOf_37 f_Ct_180 ho' (by rfl) ?_
        refine am_iload_n d_Ct_courseOf_40 rfl ?_
        refine am_icmp_ne (tgt := 47) d_Ct_courseOf_41 (by decide) (fun q2 => ?_) (fun q2 => ?_)
        · refine am_iinc (L1 := [_, _, _, _, _]) d_Ct_courseOf_47 rfl rfl (by decide) rfl ?_
          refine am_goto (tgt := 2) d_Ct_courseOf_50 (by decide) ?_
          rw [show nI k + Int32.ofInt 1 = nI (k + 1) from (nI_succ k).symm]
          refine ih (k + 1) _ (by omega) (fun j r hj2 hr2 => ?_)
          by_cases ej : j = k
          · subst ej
            cases hr.symm.trans hr2
            simp only [Bool.and_eq_false_iff, beq_eq_false_iff_ne]
            first | exact Or.inl q1 | exact Or.inr q2
          · exact hj j r (by omega) hr2
        · refine am_aload d_Ct_courseOf_44 rfl (am_rvR _) ?_
          refine am_aret d_Ct_courseOf_46 rfl (Or.inl ⟨_, rfl⟩) (am_rvR _) ?_
          refine ⟨?_, rfl⟩
          unfold fc_cix
          rw [fc_ix_some hr (by simp only [Bool.and_eq_true, beq_iff_eq]; exact ⟨q1, q2⟩) hj]
          show _ = some (Value.ref ((s.2.1 7).getD k 0))
          rw [List.getD_eq_getElem?_getD, ha]
          rfl
  refine am_Mof (L0 := [some (.ref (A 2)), some (.int x), some (.int z), none, none]) pl_Ct_courseOf (am_k1 rfl (am_k1 rfl (am_k1 rfl am_k0))) (Nat.le_of_ble_eq_true rfl) rfl ?_
  refine am_iconst (v := nI 0) d_Ct_courseOf_0 (by decide) ?_
  refine am_istore_n (L1 := [_, _, _, _, _]) d_Ct_courseOf_1 (by decide) rfl ?_
  exact key _ 0 _ (Nat.zero_add _) (fun j r h => absurd h (Nat.not_lt_zero _))
theorem co_lay {a w : Nat} {kv : Value} {f t st wv aw ld : Int32} (ho : cl_cow a w kv f t st wv aw ld S) : am_M g y_Co_isLayingOrLaid "()Z" 0 0 [.ref a] S (fun v S' => v = some (.int (am_b (decide (st = 2 ∨ st = 3)))) ∧ S' = S) := by
  have ho' : S.1 a = some (73, .inr (am_cCo, [.int f, .int t, .int st, .ref w, kv, .int wv, .int aw, .int ld])) := ho
  refine am_Mof (L0 := [some (.ref a)]) pl_Co_isLayingOrLaid (am_k1 rfl am_k0) (Nat.le_of_ble_eq_true rfl) rfl ?_
  refine am_aload_n d_Co_isLayingOrLaid_0 rfl (by first | exact am_rvR _ | exact am_rvN | assumption) ?_
  refine am_get d_Co_isLayingOrLaid_1 f_Co_18 ho' (by rfl) ?_
  refine am_iconst (v := 2) d_Co_isLayingOrLaid_4 (by decide) ?_
  first | refine am_icmp_eqN (tgt := 16) d_Co_isLayingOrLaid_5 (by decide) (by omega) (by omega) (fun q1 => ?_) (fun q1 => ?_) | refine am_icmp_eq (tgt := 16) d_Co_isLayingOrLaid_5 (by decide) (fun q1 => ?_) (fun q1 => ?_)
  · refine am_iconst (v := nI 1) d_Co_isLayingOrLaid_16 (by decide) ?_
    refine am_goto (tgt := 21) d_Co_isLayingOrLaid_17 (by decide) ?_
    refine am_iret d_Co_isLayingOrLaid_21 rfl (by first | rfl | exact am_b_nar _) ?_
    first | exact ⟨am_bt (by rw [decide_eq_true_eq]; exact Or.inl q1), rfl⟩ | exact ⟨am_bt (by rw [decide_eq_true_eq]; exact Or.inr q2), rfl⟩ | exact ⟨am_bf (by rw [decide_eq_false_iff_not]; exact fun z => z.elim q1 q2), rfl⟩
  · refine am_aload_n d_Co_isLayingOrLaid_8 rfl (by first | exact am_rvR _ | exact am_rvN | assumption) ?_
    refine am_get d_Co_isLayingOrLaid_9 f_Co_18 ho' (by rfl) ?_
    refine am_iconst (v := 3) d_Co_isLayingOrLaid_12 (by decide) ?_
    first | refine am_icmp_neN (tgt := 20) d_Co_isLayingOrLaid_13 (by decide) (by omega) (by omega) (fun q2 => ?_) (fun q2 => ?_) | refine am_icmp_ne (tgt := 20) d_Co_isLayingOrLaid_13 (by decide) (fun q2 => ?_) (fun q2 => ?_)
    · refine am_iconst (v := nI 0) d_Co_isLayingOrLaid_20 (by decide) ?_
      refine am_iret d_Co_isLayingOrLaid_21 rfl (by first | rfl | exact am_b_nar _) ?_
      first | exact ⟨am_bt (by rw [decide_eq_true_eq]; exact Or.inl q1), rfl⟩ | exact ⟨am_bt (by rw [decide_eq_true_eq]; exact Or.inr q2), rfl⟩ | exact ⟨am_bf (by rw [decide_eq_false_iff_not]; exact fun z => z.elim q1 q2), rfl⟩
    · refine am_iconst (v := nI 1) d_Co_isLayingOrLaid_16 (by decide) ?_
      refine am_goto (tgt := 21) d_Co_isLayingOrLaid_17 (by decide) ?_
      refine am_iret d_Co_isLayingOrLaid_21 rfl (by first | rfl | exact am_b_nar _) ?_
      first | exact ⟨am_bt (by rw [decide_eq_true_eq]; exact Or.inl q1), rfl⟩ | exact ⟨am_bt (by rw [decide_eq_true_eq]; exact Or.inr q2), rfl⟩ | exact ⟨am_bf (by rw [decide_eq_false_iff_not]; exact fun z => z.elim q1 q2), rfl⟩
theorem co_ends {a w : Nat} {kv : Value} {f t st wv aw ld : Int32} (ho : cl_cow a w kv f t st wv aw ld S) {way : List Int32} (hw : S.1 w = some (0, .inl (am_kI, way.map Value.int))) (hl : way.length ≤ 5) (x : Int32) : am_M g y_Co_endsWith "(I)Z" 0 0 [.ref a, .int x] S (fun v S' => v = some (.int (am_b (way.getLast? == some x))) ∧ S' = S) := by
  have ho' : S.1 a = some (73, .inr (am_cCo, [.int f, .int t, .int st, .ref w, kv, .int wv, .int aw, .int ld])) := ho
  refine am_Mof (L0 := [some (.ref a), some (.int x)]) pl_Co_endsWith (am_k1 rfl (am_k1 rfl am_k0)) (Nat.le_of_ble_eq_true rfl) rfl ?_
  refine am_aload_n d_Co_endsWith_0 rfl (by first | exact am_rvR _ | exact am_rvN | assumption) ?_
  refine am_get d_Co_endsWith_1 f_Co_25 ho' (by rfl) ?_
  refine am_alen (v := nI way.length) d_Co_endsWith_4 am_kI_ok hw (by simp; rfl) ?_
  first | refine am_if_leN (tgt := 28) d_Co_endsWith_5 (by decide) (by omega) (fun q1 => ?_) (fun q1 => ?_) | refine am_if_le (tgt := 28) d_Co_endsWith_5 (by decide) (fun q1 => ?_) (fun q1 => ?_)
  · refine am_iconst (v := nI 0) d_Co_endsWith_28 (by decide) ?_
    refine am_iret d_Co_endsWith_29 rfl (by first | rfl | exact am_b_nar _) ?_
    first | exact ⟨am_bt (by rw [hlast]; simp; exact q2), rfl⟩ | exact ⟨am_bf (by rw [hlast]; simp; exact q2), rfl⟩ | exact ⟨am_bf (by rw [List.length_eq_zero_iff.mp (Nat.le_zero.mp q1)]; rfl), rfl⟩ | exact ⟨am_bf (by have h0 : way = [] := List.length_eq_zero_iff.mp (by omega); rw [h0]; rfl), rfl⟩
  · have hpos : 0 < way.length := q1
    have hlast : way.getLast? = some (way.getD (way.length - 1) 0) := by rw [List.getLast?_eq_getElem?, List.getD_eq_getElem?_getD, List.getElem?_eq_getElem (by omega)]; rfl
    refine am_aload_n d_Co_endsWith_8 rfl (by first | exact am_rvR _ | exact am_rvN | assumption) ?_
    refine am_get d_Co_endsWith_9 f_Co_25 ho' (by rfl) ?_
    refine am_aload_n d_Co_endsWith_12 rfl (by first | exact am_rvR _ | exact am_rvN | assumption) ?_
    refine am_get d_Co_endsWith_13 f_Co_25 ho' (by rfl) ?_
    refine am_alen (v := nI way.length) d_Co_endsWith_16 am_kI_ok hw (by simp; rfl) ?_
    refine am_iconst (v := nI 1) d_Co_endsWith_17 (by decide) ?_
    first | refine am_isubN d_Co_endsWith_18 (by omega) ?_ | refine am_isub d_Co_endsWith_18 ?_
    refine am_iald (j := way.length - 1) d_Co_endsWith_19 am_kI_ok hw rfl (cl_fld (by omega)) (by simp; omega) ?_
    refine am_iload_n d_Co_endsWith_20 rfl ?_
    first | refine am_icmp_neN (tgt := 28) d_Co_endsWith_21 (by decide) (by omega) (by omega) (fun q2 => ?_) (fun q2 => ?_) | refine am_icmp_ne (tgt := 28) d_Co_endsWith_21 (by decide) (fun q2 => ?_) (fun q2 => ?_)
    · refine am_iconst (v := nI 0) d_Co_endsWith_28 (by decide) ?_
      refine am_iret d_Co_endsWith_29 rfl (by first | rfl | exact am_b_nar _) ?_
      first | exact ⟨am_bt (by rw [hlast]; simp; exact q2), rfl⟩ | exact ⟨am_bf (by rw [hlast]; simp; exact q2), rfl⟩ | exact ⟨am_bf (by rw [List.length_eq_zero_iff.mp (Nat.le_zero.mp q1)]; rfl), rfl⟩ | exact ⟨am_bf (by have h0 : way = [] := List.length_eq_zero_iff.mp (by omega); rw [h0]; rfl), rfl⟩
    · refine am_iconst (v := nI 1) d_Co_endsWith_24 (by decide) ?_
      refine am_goto (tgt := 29) d_Co_endsWith_25 (by decide) ?_
      refine am_iret d_Co_endsWith_29 rfl (by first | rfl | exact am_b_nar _) ?_
      first | exact ⟨am_bt (by rw [hlast]; simp; exact q2), rfl⟩ | exact ⟨am_bf (by rw [hlast]; simp; exact q2), rfl⟩ | exact ⟨am_bf (by rw [List.length_eq_zero_iff.mp (Nat.le_zero.mp q1)]; rfl), rfl⟩ | exact ⟨am_bf (by have h0 : way = [] := List.length_eq_zero_iff.mp (by omega); rw [h0]; rfl), rfl⟩
end CTA
