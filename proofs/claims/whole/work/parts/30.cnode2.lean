/-! the class: a datagram comes in -/
section CNE
variable {g : am_G} {e nw ns room idle : Nat} {A : Nat → Nat} {s : cl_S} {S : am_S}
def cl_bg (s : cl_S) (k n : Nat) : cl_S := (s.1, s.2.1, s.2.2.1 + k, s.2.2.2 + n)
/-- what is new does not matter -/
theorem cl_P.more {k n : Nat} {S' : am_S} (hS : cl_P e nw ns room idle A s S) (hf : am_fr (fun _ => False) S S') (hc : am_co k n S S') : cl_P e nw ns room idle A (cl_bg s k n) S' := by
  obtain ⟨⟨o, b1, b2⟩, hF, hC⟩ := hS
  refine ⟨⟨hf.2.2.2 o, ?_, ?_⟩, hF.fr hf (fun z => z), fun c => (hC c).fr rfl rfl (fun _ _ _ => rfl) hf (fun z => z) (fun _ _ _ z => z)⟩
  · show S'.2.1 ≤ s.2.2.1 + k
    have := hc.1
    omega
  · show S'.2.2 ≤ s.2.2.2 + n
    have := hc.2
    omega
theorem cl_P.mk {z : Nat} {x : am_K} (hS : cl_P e nw ns room idle A s S) : cl_P e nw ns room idle A (cl_bg s 1 z) (am_mk S 0 z x) ∧ am_fr cl_X S (am_mk S 0 z x) := ⟨hS.more (am_fr.mk _ _ _ _ hS.1.1) (am_co.mk _ _ _ _), am_fr.mk _ _ _ _ hS.1.1⟩
theorem cl_Q.wide {ps : fc_S} {k n k' n' : Nat} {S' : am_S} (h : cl_Q e nw ns room idle A s S ps k n S') (hk : k ≤ k') (hn : n ≤ n') : cl_Q e nw ns room idle A s S ps k' n' S' := by
  obtain ⟨s', h1, h2, h3⟩ := h
  exact ⟨s', h1, ⟨by omega, by omega⟩, h3⟩
/-- one change after another -/
theorem cl_Q.from {s1 : cl_S} {S1 S2 : am_S} {ps : fc_S} {k n k' n' : Nat} (h : cl_Q e nw ns room idle A s1 S1 ps k n S2) (hf : am_fr cl_X S S1) (h1 : s1.2.2.1 + k ≤ s.2.2.1 + k') (h2 : s1.2.2.2 + n ≤ s.2.2.2 + n') : cl_Q e nw ns room idle A s S ps k' n' S2 := by
  obtain ⟨s', g1, g2, g3, g4⟩ := h
  exact ⟨s', g1, ⟨by omega, by omega⟩, g3, hf.trans g4⟩
theorem cl_X0 {S S' : am_S} {a : Nat} {x : am_K} (hf : am_fr cl_X S S') (h : S.1 a = some (0, x)) : S'.1 a = some (0, x) := hf.keep h (fun z => by unfold cl_X at z; omega)
theorem fc_put2 {s : fc_S} {c k : Nat} {row : List Int32} (hk : (s c)[k]? = some row) (j j' : Nat) (x x' : Int32) : fc_put (fc_put s c k j x) c k j' x' = fc_up s c ((s c).set k ((row.set j x).set j' x')) := by
  have h1 := (List.getElem?_eq_some_iff.mp hk).1
  unfold fc_put
  funext q
  simp only [fc_up_at]
  by_cases e : q = c
  · simp only [e, if_true, List.getD_eq_getElem?_getD, List.getElem?_set_self h1, hk, Option.getD_some, List.set_set]
  · simp only [e, if_false]
theorem fc_put1 {s : fc_S} {c k : Nat} {row : List Int32} (hk : (s c)[k]? = some row) (j : Nat) (x : Int32) : fc_put s c k j x = fc_up s c ((s c).set k (row.set j x)) := by
  unfold fc_put
  rw [List.getD_eq_getElem?_getD, hk]
  rfl
theorem fc_get_row {s : fc_S} {c k : Nat} {row : List Int32} (hk : (s c)[k]? = some row) (j : Nat) : fc_get s c k j = row.getD j 0 := by
  unfold fc_get
  rw [List.getD_eq_getElem?_getD (l := s c), hk]
  rfl
theorem fc_bst_lt {rows : List (List Int32)} {p f t : Int32} : ∀ {k j : Nat}, fc_bst rows p f t k = some j → j < k
  | 0, _, h => by cases h
  | k + 1, j, h => by
    unfold fc_bst at h
    cases hb : fc_bst rows p f t k with
    | none =>
      rw [hb] at h
      simp only at h
      split at h
      · cases h; omega
      · cases h
    | some b =>
      rw [hb] at h
      simp only at h
      have := fc_bst_lt hb
      split at h
      · cases h; omega
      · cases h; omega
def cl_gv (s : cl_S) (i : Nat) (o : Option Nat) : Value := match o with | none => .null | some k => .ref ((s.2.1 (10 + i)).getD k 0)
/-- a guard's object -/
theorem cl_gd (hn : ns ≤ 5) (hS : cl_P e nw ns room idle A s S) {i : Nat} (hi : i < ns) (I : fc_iG ns s.1) {k : Nat} (hk : k < (s.1 (10 + i)).length) : ∃ (a p m v : Nat) (h : Int32), (s.2.1 (10 + i))[k]? = some a ∧ (s.1 (10 + i))[k]? = some [nI p, nI m, nI v, h] ∧ S.1 a = some (10 * (10 + i) + 3, .inr (am_cGd, [.int (nI p), .int (nI m), .int (nI v), .int h])) ∧ p ≤ 9 ∧ m ≤ 511 ∧ v ≤ 6 := by
  obtain ⟨a, row, ha, hr, hel⟩ := cl_at (cl_list hS (c := 10 + i) (by unfold cl_isL; omega)).2 hk
  obtain ⟨p, m, v, h, h1, h2, h3, rfl⟩ := (I i hi).2 row (List.mem_of_getElem? hr)
  obtain ⟨ho, -⟩ := (cl_eldir hn (c := 10 + i) (by unfold cl_dir; omega)).mp hel
  have hc : cl_cls (10 + i) = am_cGd := by unfold cl_cls; rw [if_neg (by omega), if_pos (by omega)]
  rw [hc] at ho
  exact ⟨a, p, m, v, h, ha, hr, ho, h1, h2, h3⟩
theorem cl_rl (hn : ns ≤ 5) (hS : cl_P e nw ns room idle A s S) {i : Nat} (hi : i < ns) (I : fc_iR ns room s.1) {k : Nat} (hk : k < (s.1 (20 + i)).length) : ∃ (a f t p : Nat) (m l u : Int32), (s.2.1 (20 + i))[k]? = some a ∧ (s.1 (20 + i))[k]? = some [nI f, nI t, nI p, m, l, u] ∧ S.1 a = some (10 * (20 + i) + 3, .inr (am_cRl, [.int (nI f), .int (nI t), .int (nI p), .int m, .int l, .int u])) ∧ f < 6 ∧ t < 6 ∧ p < 4 := by
  obtain ⟨a, row, ha, hr, hel⟩ := cl_at (cl_list hS (c := 20 + i) (by unfold cl_isL; omega)).2 hk
  obtain ⟨f, t, p, m, l, u, h1, h2, h3, rfl⟩ := (I i hi).2 row (List.mem_of_getElem? hr)
  obtain ⟨ho, -⟩ := (cl_eldir hn (c := 20 + i) (by unfold cl_dir; omega)).mp hel
  have hc : cl_cls (20 + i) = am_cRl := by unfold cl_cls; rw [if_neg (by omega), if_neg (by omega)]
  rw [hc] at ho
  exact ⟨a, f, t, p, m, l, u, ha, hr, ho, h1, h2, h3⟩
theorem nd_best (hn : ns ≤ 5) (hS : cl_P e nw ns room idle A s S) {i : Nat} (hi : i < ns) (I : fc_iG ns s.1) {b : Nat} {f t n : Int32} (hb : S.1 b = some (0, .inr (am_cDg, [.int f, .int t, .int n]))) (p : Int32) : am_M g y_Nd_strongestGuard "(LFlowFabric$Datagram;I)LFlowFabric$Guard;" 3 64 [.ref (A (50 + i)), .ref b, .int p] S (fun v S' => v = some (cl_gv s i (fc_bst (s.1 (10 + i)) p f t (s.1 (10 + i)).length)) ∧ S' = S) := by
  have hL : cl_isL ns (10 + i) := by unfold cl_isL; omega
  have hl := (cl_list hS hL).2.1
  have hb0 := (cl_list hS hL).1
  have h4 := (I i hi).1
  have key : ∀ (m k : Nat) (o5 o6 : Option Value), k + m = (s.1 (10 + i)).length → am_W g y_Nd_strongestGuard 3 64 (fun v S' => v = some (cl_gv s i (fc_bst (s.1 (10 + i)) p f t (s.1 (10 + i)).length)) ∧ S' = S) 5 [some (.ref (A (50 + i))), some (.ref b), some (.int p), some (cl_gv s i (fc_bst (s.1 (10 + i)) p f t k)), some (.int (nI k)), o5, o6] [] S := by
    intro m
    induction m with
    | zero =>
      intro k o5 o6 hk
      have ek : k = (s.1 (10 + i)).length := by omega
      have hrv : am_rv (cl_gv s i (fc_bst (s.1 (10 + i)) p f t k)) := by unfold cl_gv; split <;> first | exact am_rvN | exact am_rvR _
      refine am_iload d_Nd_strongestGuard_5 rfl ?_
      refine am_aload_n d_Nd_strongestGuard_7 rfl (by first | exact am_rvR _ | exact am_rvN | assumption) ?_
      refine am_get d_Nd_strongestGuard_8 f_Nd_28 (cl_node hS hi) (by rfl) ?_
      refine am_cV (b := A (10 + i)) d_Nd_strongestGuard_11 v_Nd_41 (vs := []) (st := [.int (nI k)]) rfl rfl (by decide) (Nat.le_of_ble_eq_true rfl) hb0.choose_spec.choose_spec.choose_spec.choose_spec.1 (cl_size hS hL) ?_
      rintro v S1 ⟨rfl, rfl⟩
      refine am_icmp_geN (tgt := 78) d_Nd_strongestGuard_14 (by decide) (by omega) (by omega) (fun _ => ?_) (fun q => absurd q (by omega))
      refine am_aload_n d_Nd_strongestGuard_78 rfl (by first | exact am_rvR _ | exact am_rvN | assumption) ?_
      refine am_aret d_Nd_strongestGuard_79 rfl (by first | exact Or.inl ⟨_, rfl⟩ | exact Or.inr ⟨_, rfl⟩) (by first | exact am_rvR _ | exact am_rvN | assumption) ?_
      exact ⟨by rw [ek], rfl⟩
    | succ m ih =>
      intro k o5 o6 hk
      obtain ⟨a, pk, mk, vk, hk0, ha, hr, ho, hp9, hm, hv6⟩ := cl_gd hn hS hi I (k := k) (by omega)
      have hgv : Value.ref a = cl_gv s i (some k) := by show _ = Value.ref ((s.2.1 (10 + i)).getD k 0); rw [List.getD_eq_getElem?_getD, ha]; rfl
      have e1 : ((s.1 (10 + i)).getD k []).getD 1 0 = nI mk := fc_get_row hr 1
      have e0 : ((s.1 (10 + i)).getD k []).getD 0 0 = nI pk := fc_get_row hr 0
      cases hbk : fc_bst (s.1 (10 + i)) p f t k with
      | none =>
        have es : fc_bst (s.1 (10 + i)) p f t (k + 1) = if fc_mch (nI mk) p f t then some k else none := by
          show (match fc_bst (s.1 (10 + i)) p f t k with | none => _ | some b => _) = _
          rw [hbk, e1]
        have hz := ih (k + 1)
        rw [es] at hz
        refine am_iload d_Nd_strongestGuard_5 rfl ?_
        refine am_aload_n d_Nd_strongestGuard_7 rfl (by first | exact am_rvR _ | exact am_rvN | assumption) ?_
        refine am_get d_Nd_strongestGuard_8 f_Nd_28 (cl_node hS hi) (by rfl) ?_
        refine am_cV (b := A (10 + i)) d_Nd_strongestGuard_11 v_Nd_41 (vs := []) (st := [.int (nI k)]) rfl rfl (by decide) (Nat.le_of_ble_eq_true rfl) hb0.choose_spec.choose_spec.choose_spec.choose_spec.1 (cl_size hS hL) ?_
        rintro v S1 ⟨rfl, rfl⟩
        refine am_icmp_geN (tgt := 78) d_Nd_strongestGuard_14 (by decide) (by omega) (by omega) (fun q => absurd q (by omega)) (fun _ => ?_)
        refine am_aload_n d_Nd_strongestGuard_17 rfl (by first | exact am_rvR _ | exact am_rvN | assumption) ?_
        refine am_get d_Nd_strongestGuard_18 f_Nd_28 (cl_node hS hi) (by rfl) ?_
        refine am_iload d_Nd_strongestGuard_21 rfl ?_
        refine am_cV (b := A (10 + i)) d_Nd_strongestGuard_23 v_Nd_111 (vs := [.int (nI k)]) (st := []) rfl rfl (by decide) (Nat.le_of_ble_eq_true rfl) hb0.choose_spec.choose_spec.choose_spec.choose_spec.1 (cl_getM hS hL ha) ?_
        rintro v S1 ⟨rfl, rfl⟩
        refine am_cast d_Nd_strongestGuard_26 k_Nd_90 (q := am_qGd) rfl (Or.inl rfl) ho ?_
        refine am_astore (L1 := [_, _, _, _, _, _, _]) d_Nd_strongestGuard_29 (by decide) (by first | exact am_rvR _ | exact am_rvN | assumption) rfl ?_
        refine am_aload_n d_Nd_strongestGuard_31 rfl (by first | exact am_rvR _ | exact am_rvN | assumption) ?_
        refine am_ifnullN (tgt := 47) d_Nd_strongestGuard_32 (by decide) ?_
        refine am_iconst (v := nI 1) d_Nd_strongestGuard_47 (by decide) ?_
        refine am_goto (tgt := 52) d_Nd_strongestGuard_48 (by decide) ?_
        refine am_istore (L1 := [_, _, _, _, _, _, _]) d_Nd_strongestGuard_52 (by decide) rfl ?_
        refine am_iload d_Nd_strongestGuard_54 rfl ?_
        refine am_if_eqN (tgt := 72) d_Nd_strongestGuard_56 (by decide) (by omega) (fun q => absurd q (by omega)) (fun _ => ?_)
        refine am_aload d_Nd_strongestGuard_59 rfl (by first | exact am_rvR _ | exact am_rvN | assumption) ?_
        refine am_aload_n d_Nd_strongestGuard_61 rfl (by first | exact am_rvR _ | exact am_rvN | assumption) ?_
        refine am_iload_n d_Nd_strongestGuard_62 rfl ?_
        refine am_cV (b := a) d_Nd_strongestGuard_63 v_Nd_118 (vs := [.ref b, .int p]) (st := []) rfl rfl (by decide) (Nat.le_of_ble_eq_true rfl) ho (gd_matches ho hb p) ?_
        rintro v S1 ⟨rfl, rfl⟩
        first | refine am_if_eqB (tgt := 72) d_Nd_strongestGuard_66 (by decide) (fun q1 => ?_) (fun q1 => ?_) | refine am_if_eqN (tgt := 72) d_Nd_strongestGuard_66 (by decide) (by omega) (fun q1 => ?_) (fun q1 => ?_) | refine am_if_eq (tgt := 72) d_Nd_strongestGuard_66 (by decide) (fun q1 => ?_) (fun q1 => ?_)
        · first | refine am_iincN (b := 1) (L1 := [_, _, _, _, _, _, _]) d_Nd_strongestGuard_72 rfl (by decide) (by decide) rfl ?_ | refine am_iinc (L1 := [_, _, _, _, _, _, _]) d_Nd_strongestGuard_72 rfl rfl (by decide) rfl ?_
          refine am_goto (tgt := 5) d_Nd_strongestGuard_75 (by decide) ?_
          first | (rw [if_pos (by assumption)] at hz; rw [hgv]; exact hz _ _ (by omega)) | (rw [if_neg (by simp only [*]; decide)] at hz; exact hz _ _ (by omega))
        · refine am_aload d_Nd_strongestGuard_69 rfl (by first | exact am_rvR _ | exact am_rvN | assumption) ?_
          refine am_astore_n (L1 := [_, _, _, _, _, _, _]) d_Nd_strongestGuard_71 (by decide) (by first | exact am_rvR _ | exact am_rvN | assumption) rfl ?_
          first | refine am_iincN (b := 1) (L1 := [_, _, _, _, _, _, _]) d_Nd_strongestGuard_72 rfl (by decide) (by decide) rfl ?_ | refine am_iinc (L1 := [_, _, _, _, _, _, _]) d_Nd_strongestGuard_72 rfl rfl (by decide) rfl ?_
          refine am_goto (tgt := 5) d_Nd_strongestGuard_75 (by decide) ?_
          first | (rw [if_pos (by assumption)] at hz; rw [hgv]; exact hz _ _ (by omega)) | (rw [if_neg (by simp only [*]; decide)] at hz; exact hz _ _ (by omega))
      | some j =>
        obtain ⟨aj, pj, mj, vj, hj0, haj, hrj, hoj, hpj, -, -⟩ := cl_gd hn hS hi I (k := j) (by have := fc_bst_lt hbk; omega)
        have hgj : cl_gv s i (some j) = Value.ref aj := by show Value.ref ((s.2.1 (10 + i)).getD j 0) = _; rw [List.getD_eq_getElem?_getD, haj]; rfl
        have ej : ((s.1 (10 + i)).getD j []).getD 0 0 = nI pj := fc_get_row hrj 0
        have es : fc_bst (s.1 (10 + i)) p f t (k + 1) = if decide (nI pj < nI pk) && fc_mch (nI mk) p f t then some k else some j := by
          show (match fc_bst (s.1 (10 + i)) p f t k with | none => _ | some b => _) = _
          rw [hbk, e1, e0]
          simp only [ej]
        have hz := ih (k + 1)
        rw [es] at hz
        rw [hgj]
        refine am_iload d_Nd_strongestGuard_5 rfl ?_
        refine am_aload_n d_Nd_strongestGuard_7 rfl (by first | exact am_rvR _ | exact am_rvN | assumption) ?_
        refine am_get d_Nd_strongestGuard_8 f_Nd_28 (cl_node hS hi) (by rfl) ?_
        refine am_cV (b := A (10 + i)) d_Nd_strongestGuard_11 v_Nd_41 (vs := []) (st := [.int (nI k)]) rfl rfl (by decide) (Nat.le_of_ble_eq_true rfl) hb0.choose_spec.choose_spec.choose_spec.choose_spec.1 (cl_size hS hL) ?_
        rintro v S1 ⟨rfl, rfl⟩
        refine am_icmp_geN (tgt := 78) d_Nd_strongestGuard_14 (by decide) (by omega) (by omega) (fun q => absurd q (by omega)) (fun _ => ?_)
        refine am_aload_n d_Nd_strongestGuard_17 rfl (by first | exact am_rvR _ | exact am_rvN | assumption) ?_
        refine am_get d_Nd_strongestGuard_18 f_Nd_28 (cl_node hS hi) (by rfl) ?_
        refine am_iload d_Nd_strongestGuard_21 rfl ?_
        refine am_cV (b := A (10 + i)) d_Nd_strongestGuard_23 v_Nd_111 (vs := [.int (nI k)]) (st := []) rfl rfl (by decide) (Nat.le_of_ble_eq_true rfl) hb0.choose_spec.choose_spec.choose_spec.choose_spec.1 (cl_getM hS hL ha) ?_
        rintro v S1 ⟨rfl, rfl⟩
        refine am_cast d_Nd_strongestGuard_26 k_Nd_90 (q := am_qGd) rfl (Or.inl rfl) ho ?_
        refine am_astore (L1 := [_, _, _, _, _, _, _]) d_Nd_strongestGuard_29 (by decide) (by first | exact am_rvR _ | exact am_rvN | assumption) rfl ?_
        refine am_aload_n d_Nd_strongestGuard_31 rfl (by first | exact am_rvR _ | exact am_rvN | assumption) ?_
        refine am_ifnull d_Nd_strongestGuard_32 ?_
        refine am_aload d_Nd_strongestGuard_35 rfl (by first | exact am_rvR _ | exact am_rvN | assumption) ?_
        refine am_get d_Nd_strongestGuard_37 f_Nd_115 ho (by rfl) ?_
        refine am_aload_n d_Nd_strongestGuard_40 rfl (by first | exact am_rvR _ | exact am_rvN | assumption) ?_
        refine am_get d_Nd_strongestGuard_41 f_Nd_115 hoj (by rfl) ?_
        refine am_icmp_le (tgt := 51) d_Nd_strongestGuard_44 (by decide) (fun qle => ?_) (fun qle => ?_)
        · refine am_iconst (v := nI 0) d_Nd_strongestGuard_51 (by decide) ?_
          refine am_istore (L1 := [_, _, _, _, _, _, _]) d_Nd_strongestGuard_52 (by decide) rfl ?_
          refine am_iload d_Nd_strongestGuard_54 rfl ?_
          refine am_if_eqN (tgt := 72) d_Nd_strongestGuard_56 (by decide) (by omega) (fun _ => ?_) (fun q => absurd q (by omega))
          first | refine am_iincN (b := 1) (L1 := [_, _, _, _, _, _, _]) d_Nd_strongestGuard_72 rfl (by decide) (by decide) rfl ?_ | refine am_iinc (L1 := [_, _, _, _, _, _, _]) d_Nd_strongestGuard_72 rfl rfl (by decide) rfl ?_
          refine am_goto (tgt := 5) d_Nd_strongestGuard_75 (by decide) ?_
          rw [if_neg (by rw [Bool.and_eq_true, decide_eq_true_eq]; exact fun z => by have h1 := z.1; rw [Int32.lt_iff_toInt_lt] at h1; rw [Int32.le_iff_toInt_le] at qle; omega), hgj] at hz
          exact hz _ _ (by omega)
        · refine am_iconst (v := nI 1) d_Nd_strongestGuard_47 (by decide) ?_
          refine am_goto (tgt := 52) d_Nd_strongestGuard_48 (by decide) ?_
          refine am_istore (L1 := [_, _, _, _, _, _, _]) d_Nd_strongestGuard_52 (by decide) rfl ?_
          refine am_iload d_Nd_strongestGuard_54 rfl ?_
          refine am_if_eqN (tgt := 72) d_Nd_strongestGuard_56 (by decide) (by omega) (fun q => absurd q (by omega)) (fun _ => ?_)
          refine am_aload d_Nd_strongestGuard_59 rfl (by first | exact am_rvR _ | exact am_rvN | assumption) ?_
          refine am_aload_n d_Nd_strongestGuard_61 rfl (by first | exact am_rvR _ | exact am_rvN | assumption) ?_
          refine am_iload_n d_Nd_strongestGuard_62 rfl ?_
          refine am_cV (b := a) d_Nd_strongestGuard_63 v_Nd_118 (vs := [.ref b, .int p]) (st := []) rfl rfl (by decide) (Nat.le_of_ble_eq_true rfl) ho (gd_matches ho hb p) ?_
          rintro v S1 ⟨rfl, rfl⟩
          first | refine am_if_eqB (tgt := 72) d_Nd_strongestGuard_66 (by decide) (fun q1 => ?_) (fun q1 => ?_) | refine am_if_eqN (tgt := 72) d_Nd_strongestGuard_66 (by decide) (by omega) (fun q1 => ?_) (fun q1 => ?_) | refine am_if_eq (tgt := 72) d_Nd_strongestGuard_66 (by decide) (fun q1 => ?_) (fun q1 => ?_)
          · first | refine am_iincN (b := 1) (L1 := [_, _, _, _, _, _, _]) d_Nd_strongestGuard_72 rfl (by decide) (by decide) rfl ?_ | refine am_iinc (L1 := [_, _, _, _, _, _, _]) d_Nd_strongestGuard_72 rfl rfl (by decide) rfl ?_
            refine am_goto (tgt := 5) d_Nd_strongestGuard_75 (by decide) ?_
            have hlt : nI pj < nI pk := by rw [Int32.lt_iff_toInt_lt]; rw [Int32.le_iff_toInt_le] at qle; omega
            first | (rw [if_pos (by rw [Bool.and_eq_true, decide_eq_true_eq]; exact ⟨hlt, by assumption⟩)] at hz; rw [hgv]; exact hz _ _ (by omega)) | (rw [if_neg (by rw [Bool.and_eq_true]; intro z; have := z.2; simp_all), hgj] at hz; exact hz _ _ (by omega))
          · refine am_aload d_Nd_strongestGuard_69 rfl (by first | exact am_rvR _ | exact am_rvN | assumption) ?_
            refine am_astore_n (L1 := [_, _, _, _, _, _, _]) d_Nd_strongestGuard_71 (by decide) (by first | exact am_rvR _ | exact am_rvN | assumption) rfl ?_
            first | refine am_iincN (b := 1) (L1 := [_, _, _, _, _, _, _]) d_Nd_strongestGuard_72 rfl (by decide) (by decide) rfl ?_ | refine am_iinc (L1 := [_, _, _, _, _, _, _]) d_Nd_strongestGuard_72 rfl rfl (by decide) rfl ?_
            refine am_goto (tgt := 5) d_Nd_strongestGuard_75 (by decide) ?_
            have hlt : nI pj < nI pk := by rw [Int32.lt_iff_toInt_lt]; rw [Int32.le_iff_toInt_le] at qle; omega
            first | (rw [if_pos (by rw [Bool.and_eq_true, decide_eq_true_eq]; exact ⟨hlt, by assumption⟩)] at hz; rw [hgv]; exact hz _ _ (by omega)) | (rw [if_neg (by rw [Bool.and_eq_true]; intro z; have := z.2; simp_all), hgj] at hz; exact hz _ _ (by omega))
  refine am_Mof (L0 := [some (.ref (A (50 + i))), some (.ref b), some (.int p), none, none, none, none]) pl_Nd_strongestGuard (am_k1 rfl (am_k1 rfl (am_k1 rfl am_k0))) (Nat.le_of_ble_eq_true rfl) rfl ?_
  refine am_null d_Nd_strongestGuard_0 ?_
  refine am_astore_n (L1 := [_, _, _, _, _, _, _]) d_Nd_strongestGuard_1 (by decide) (by first | exact am_rvR _ | exact am_rvN | assumption) rfl ?_
  refine am_iconst (v := nI 0) d_Nd_strongestGuard_2 (by decide) ?_
  refine am_istore (L1 := [_, _, _, _, _, _, _]) d_Nd_strongestGuard_3 (by decide) rfl ?_
  exact key _ 0 _ _ (Nat.zero_add _)
end CNE
