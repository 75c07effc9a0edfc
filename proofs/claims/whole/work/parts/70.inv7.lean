/-! what always holds: frames come in and go out -/
section ING
variable {ns room idle : Nat}
variable {own : Int32 → Int32 × Int32} {W : Nat}
def fz_J (own : Int32 → Int32 × Int32) (W ns room : Nat) (s : fc_S) : Prop := fc_iD ns room s ∧ fz_I own W ns s
theorem fz_J.same {s s' : fc_S} (J : fz_J own W ns room s) (D : fc_iD ns room s') (h2 : s' 2 = s 2) (h7 : s' 7 = s 7) (h : ∀ i, i < ns → s' (20 + i) = s (20 + i) ∧ s' (30 + i) = s (30 + i) ∧ s' (40 + i) = s (40 + i)) : fz_J own W ns room s' := by
  obtain ⟨⟨⟨-, hn, -⟩, -, -, -, -, -, -, -, IK⟩, I⟩ := J
  refine ⟨D, I.step hn IK h2 h7 (fun i hi => ?_) (fun i hi z => fz_ste.of ?_)⟩
  · rw [(h i hi).2.1, (h i hi).2.2]; exact I.2.1 i hi
  · unfold fz_T; rw [(h i hi).1, (h i hi).2.1, (h i hi).2.2]
theorem fc_out_at {s : fc_S} {q c : Nat} {row : List Int32} (h1 : c ≠ 1) (h2 : c ≠ 200 + q) : fc_out s q row c = s c := by
  unfold fc_out
  split
  · split
    · unfold fc_take; rw [fc_put_ne _ _ _ h1, fc_put_ne _ _ _ h1, fc_put_ne _ _ _ h1]
    · rfl
  · split
    · exact fc_up_ne _ h2
    · rfl
theorem fz_J.out {s : fc_S} (J : fz_J own W ns room s) {q : Nat} (hq : q < 4 * ns) {row : List Int32} (hf : fc_frm ns row) : fz_J own W ns room (fc_out s q row) := by
  obtain ⟨⟨h0, IH, IP, IW, IG, IR, IL, Io, IK⟩, I⟩ := id J
  obtain ⟨IP', IH', IW'⟩ := fc_out_ok h0.2.1 IP IH IW hq hf
  have ns5 := h0.2.1
  refine J.same ⟨h0, IH', IP', IW', IG.same (fun i hi => fc_out_at (by omega) (by omega)), IR.same (fun i hi => fc_out_at (by omega) (by omega)), IL.same (fun i hi => ⟨fc_out_at (by omega) (by omega), fc_out_at (by omega) (by omega)⟩), Io.same (fun c h1 h2 => fc_out_at (by omega) (by omega)), IK.same (fc_out_at (by omega) (by omega))⟩ (fc_out_at (by omega) (by omega)) (fc_out_at (by omega) (by omega)) (fun i hi => ⟨fc_out_at (by omega) (by omega), fc_out_at (by omega) (by omega), fc_out_at (by omega) (by omega)⟩)
theorem fz_lq_none {r : List Int32} (h : fz_lq r = true) : fz_pq own r = none := by
  have := of_decide_eq_true h
  unfold fz_pq
  rw [if_neg this.1, if_neg this.2]
theorem fz_lo_none {r : List Int32} (h : fz_lo r = true) : fz_po own r = none := by
  have := of_decide_eq_true h
  unfold fz_po
  rw [if_neg this.1, if_neg this.2]
theorem fz_fq_app (z : Int32 × Int32) (l l' : List (List Int32)) : fz_fq own z (l ++ l') = fz_fq own z l ++ fz_fq own z l' := List.filter_append ..
theorem fz_fo_app (z : Int32 × Int32) (l l' : List (List Int32)) : fz_fo own z (l ++ l') = fz_fo own z l ++ fz_fo own z l' := List.filter_append ..
theorem fz_fq_no {z : Int32 × Int32} {r : List Int32} (h : fz_pq own r ≠ some z) : fz_fq own z [r] = [] := by unfold fz_fq; rw [List.filter_cons, if_neg (by simpa using h)]; rfl
theorem fz_fq_yes {z : Int32 × Int32} {r : List Int32} (h : fz_pq own r = some z) : fz_fq own z [r] = [r] := by unfold fz_fq; rw [List.filter_cons, if_pos (by simpa using h)]; rfl
theorem fz_fo_no {z : Int32 × Int32} {r : List Int32} (h : fz_po own r ≠ some z) : fz_fo own z [r] = [] := by unfold fz_fo; rw [List.filter_cons, if_neg (by simpa using h)]; rfl
theorem fz_fo_yes {z : Int32 × Int32} {r : List Int32} (h : fz_po own r = some z) : fz_fo own z [r] = [r] := by unfold fz_fo; rw [List.filter_cons, if_pos (by simpa using h)]; rfl
theorem fz_T_q {s s' : fc_S} {i : Nat} {z : Int32 × Int32} (h2 : s' (20 + i) = s (20 + i)) (h3 : s' (30 + i) = s (30 + i)) : fz_T own s' i z = ((fz_T own s i z).1, fz_fq own z (s' (40 + i)), (fz_T own s i z).2.2) := by unfold fz_T; rw [h2, h3]
theorem fc_add_same (s : fc_S) (c : Nat) (row : List Int32) : fc_add s c row c = s c ++ [row] := fc_up_same _ _ _
theorem fc_add_ne {s : fc_S} {c q : Nat} (row : List Int32) (h : q ≠ c) : fc_add s c row q = s q := fc_up_ne _ h
theorem fc_del_same (s : fc_S) (c k : Nat) : fc_del s c k c = (s c).eraseIdx k := fc_up_same _ _ _
theorem fc_del_ne {s : fc_S} {c q : Nat} (k : Nat) (h : q ≠ c) : fc_del s c k q = s q := fc_up_ne _ h
/-- a report that belongs to no course -/
theorem fz_J.light {s : fc_S} (J : fz_J own W ns room s) {i : Nat} (hi : i < ns) {row : List Int32} (hq : fc_qOk ns row) (hl : fz_lq row = true) (h20 : (s (40 + i)).length < 21) : fz_J own W ns room (fc_add s (40 + i) row) := by
  have D := J.1
  obtain ⟨⟨h0, IH, IP, IW, IG, IR, IL, Io, IK⟩, I⟩ := J
  have n5 := h0.2.1
  refine ⟨D.addL hi (Or.inr ⟨rfl, hq⟩) (by omega), I.step n5 IK (fc_add_ne _ (by omega)) (fc_add_ne _ (by omega)) (fun j hj => ?_) (fun j hj z => fz_ste.of ?_)⟩
  · rw [fc_add_ne _ (show 30 + j ≠ 40 + i by omega)]
    obtain ⟨a, b, c, d⟩ := I.2.1 j hj
    by_cases e : j = i
    · subst e
      rw [fc_add_same]
      refine ⟨a, fun r hr => ?_, c, ?_⟩
      · rcases List.mem_append.mp hr with h | h
        · exact b r h
        · rw [List.mem_singleton.mp h]
          exact fun h2 => absurd h2 (of_decide_eq_true hl).1
      · rw [List.countP_append]
        have h1 : (s (40 + j)).countP fz_lq ≤ (s (40 + j)).length := List.countP_le_length
        have h2 : [row].countP fz_lq ≤ [row].length := List.countP_le_length
        rw [List.length_singleton] at h2
        omega
    · rw [fc_add_ne _ (show 40 + j ≠ 40 + i by omega)]
      exact ⟨a, b, c, d⟩
  · by_cases e : j = i
    · subst e
      rw [fz_T_q (fc_add_ne _ (by omega)) (fc_add_ne _ (by omega)), fc_add_same, fz_fq_app, fz_fq_no (by rw [fz_lq_none hl]; simp), List.append_nil]
      rfl
    · unfold fz_T
      rw [fc_add_ne _ (show 30 + j ≠ 40 + i by omega), fc_add_ne _ (show 40 + j ≠ 40 + i by omega), fc_add_ne _ (show 20 + j ≠ 40 + i by omega)]
theorem fz_J.slight {s : fc_S} (J : fz_J own W ns room s) {i : Nat} (hi : i < ns) {row : List Int32} (hq : fc_qOk ns row) (hl : fz_lq row = true) : fz_J own W ns room (fc_slight s i row) := by
  unfold fc_slight fc_len
  split
  · exact J.light hi hq hl (by omega)
  · exact J
theorem fz_cset {p : List Int32 → Bool} {b a : List Int32} (h : p a = p b) : ∀ {l : List (List Int32)} {k : Nat}, l[k]? = some b → (l.set k a).countP p = l.countP p
  | [], _, h' => by cases h'
  | x :: l, 0, h' => by
    cases h'
    rw [List.set_cons_zero, List.countP_cons, List.countP_cons, h]
  | x :: l, k + 1, h' => by
    rw [List.set_cons_succ, List.countP_cons, List.countP_cons, fz_cset h (k := k) (by simpa using h')]
theorem fz_J.use {s : fc_S} (J : fz_J own W ns room s) {i k f t p : Nat} {m l u : Int32} (hi : i < ns) (hf : f < 6) (ht : t < 6) (hp : p < 4) (hr : (s (20 + i))[k]? = some [nI f, nI t, nI p, m, l, u]) (x y : Int32) : fz_J own W ns room (fc_up s (20 + i) ((s (20 + i)).set k [nI f, nI t, nI p, m, y, x])) := by
  obtain ⟨⟨h0, IH, IP, IW, IG, IR, IL, Io, IK⟩, I⟩ := J
  have n5 := h0.2.1
  refine ⟨⟨h0, IH.same (fun c hc => fc_up_ne _ (by omega)), IP.same (fun c hc => fc_up_ne _ (by omega)), IW.same (fun c hc => fc_up_ne _ (by omega)), IG.same (fun j hj => fc_up_ne _ (by omega)), fun j hj => ?_, IL.same (fun j hj => ⟨fc_up_ne _ (by omega), fc_up_ne _ (by omega)⟩), Io.same (fun c h1 h2 => fc_up_ne _ (by omega)), IK.same (fc_up_ne _ (by omega))⟩, I.step n5 IK (fc_up_ne _ (by omega)) (fc_up_ne _ (by omega)) (fun j hj => ?_) (fun j hj z => fz_ste.of ?_)⟩
  · by_cases e : j = i
    · subst e
      rw [fc_up_same]
      refine ⟨by rw [List.length_set]; exact (IR j hj).1, fun r hr' => ?_⟩
      rcases List.mem_or_eq_of_mem_set hr' with h | h
      · exact (IR j hj).2 r h
      · exact ⟨f, t, p, m, y, x, hf, ht, hp, h⟩
    · rw [fc_up_ne _ (by omega)]; exact IR j hj
  · rw [fc_up_ne _ (by omega), fc_up_ne _ (by omega)]; exact I.2.1 j hj
  · unfold fz_T
    rw [fc_up_ne _ (show 30 + j ≠ 20 + i by omega), fc_up_ne _ (show 40 + j ≠ 20 + i by omega)]
    by_cases e : j = i
    · subst e
      rw [fc_up_same]
      unfold fz_nr
      rw [fz_cset (by rfl) hr]
    · rw [fc_up_ne _ (show 20 + j ≠ 20 + i by omega)]
theorem fc_rix_row {s : fc_S} {i k : Nat} {x z : Int32} (h : fc_rix s i x z = some k) : ∃ row, (s (20 + i))[k]? = some row ∧ row.getD 0 0 = x ∧ row.getD 1 0 = z := by
  have hk := fc_rix_some h
  refine ⟨(s (20 + i))[k], List.getElem?_eq_getElem hk, ?_⟩
  unfold fc_rix at h
  obtain ⟨_, h2, _⟩ := List.findIdx?_eq_some_iff_getElem.mp h
  simpa using h2
theorem fz_J.rules {s : fc_S} (J : fz_J own W ns room s) {i p f t : Nat} (hi : i < ns) (hp : p ≤ 4) (hf : f < 6) (ht : t < 6) (nr : Int32) : fz_J own W ns room (fc_rules s i (nI p) (nI f) (nI t) nr) := by
  unfold fc_rules
  cases hx : fc_rix s i (nI f) (nI t) with
  | none => exact J.slight hi (Or.inl ⟨p, f, t, nr, hp, hf, ht, rfl⟩) rfl
  | some k =>
    obtain ⟨row, hr, -, -⟩ := fc_rix_row hx
    obtain ⟨f', t', p', m, l, u, h1, h2, h3, rfl⟩ := (J.1.2.2.2.2.2.1 i hi).2 row (List.mem_of_getElem? hr)
    show fz_J own W ns room (fc_out _ _ _)
    rw [fc_put2 hr]
    have hg : (fc_get s (20 + i) k 2).toNatClampNeg = p' := by rw [fc_get_row hr]; exact nI_clamp (by omega)
    rw [hg]
    exact (J.use hi h1 h2 h3 hr _ _).out (by omega) (Or.inl ⟨f, t, nr, hf, ht, rfl⟩)
theorem fz_J.hits {s : fc_S} (J : fz_J own W ns room s) {i k p m v : Nat} {h : Int32} (hi : i < ns) (hr : (s (10 + i))[k]? = some [nI p, nI m, nI v, h]) (h' : Int32) : fz_J own W ns room (fc_up s (10 + i) ((s (10 + i)).set k [nI p, nI m, nI v, h'])) := by
  have n5 := J.1.1.2.1
  exact J.same (J.1.hits hi hr h') (fc_up_ne _ (by omega)) (fc_up_ne _ (by omega)) (fun j hj => ⟨fc_up_ne _ (by omega), fc_up_ne _ (by omega), fc_up_ne _ (by omega)⟩)
theorem fz_J.come {s : fc_S} (J : fz_J own W ns room s) {i p f t : Nat} (hi : i < ns) (hp : p ≤ 4) (hf : f < 6) (ht : t < 6) (nr : Int32) : fz_J own W ns room (fc_in s i (nI p) (nI f) (nI t) nr) := by
  unfold fc_in
  cases hx : fc_bst (s (10 + i)) (nI p) (nI f) (nI t) (fc_len s (10 + i)) with
  | none => exact J.rules hi hp hf ht nr
  | some k =>
    have hk : k < (s (10 + i)).length := fc_bst_lt hx
    have hr := List.getElem?_eq_getElem hk
    obtain ⟨pr, m, v, h, h1, h2, h3, he⟩ := (J.1.2.2.2.2.1 i hi).2 _ (List.getElem_mem hk)
    rw [he] at hr
    show fz_J own W ns room (if _ then _ else _)
    rw [fc_put1 hr]
    have J' := J.hits hi hr (fc_get s (10 + i) k 3 + 1)
    have hv : fc_get s (10 + i) k 2 = nI v := by rw [fc_get_row hr]; rfl
    rw [hv]
    split
    · next h4 =>
      have hv4 : v < 4 := by
        have := (nI_ltI (a := v) (b := 4) (by omega) (by omega)).mp h4
        exact this
      rw [nI_clamp (by omega)]
      exact J'.out (by omega) (Or.inl ⟨f, t, nr, hf, ht, rfl⟩)
    · split
      · exact J'.rules hi hp hf ht nr
      · split
        · exact J'.slight hi (Or.inl ⟨p, f, t, nr, hp, hf, ht, rfl⟩) rfl
        · exact J'
theorem fz_J.send {s : fc_S} (J : fz_J own W ns room s) (f t nr : Int32) : fz_J own W ns room (fc_send s f t nr).2 := by
  unfold fc_send
  split
  · next h =>
    have IH := J.1.2.1
    rw [Bool.and_eq_true, Bool.and_eq_true] at h
    obtain ⟨f', hf, rfl⟩ := fc_hs_nat IH.2.1 h.1
    obtain ⟨t', ht, rfl⟩ := fc_hs_nat IH.2.1 h.2.1
    have h6 := IH.2.1
    have hr := List.getElem?_eq_getElem hf
    obtain ⟨i, p, a, b, c, h1, h2, he⟩ := IH.2.2 f' _ hr
    rw [he] at hr
    show fz_J own W ns room (fc_in _ _ _ _ _ _)
    rw [nI_clamp (show f' < 2 ^ 31 by omega), fc_get_row hr, fc_get_row hr]
    show fz_J own W ns room (fc_in s (nI i).toNatClampNeg (nI p) _ _ _)
    rw [nI_clamp (by have := J.1.1.2.1; omega)]
    exact J.come h1 (by omega) (by omega) (by omega) nr
  · exact J
theorem fz_J.carry {s : fc_S} (J : fz_J own W ns room s) (x p : Int32) : fz_J own W ns room (fc_carry ns s x p).2 := by
  unfold fc_carry
  split
  · next h =>
    have n5 := J.1.1.2.1
    rw [Bool.and_eq_true] at h
    have h1 := h.1
    unfold fc_en at h1
    rw [Bool.and_eq_true] at h1
    obtain ⟨i, q, hi, hq, rfl, rfl⟩ := fc_pt_nat n5 h1.1
    rw [fc_e_nat (by omega) hq] at h1 ⊢
    have he := h.2
    rw [fc_e_nat (by omega) hq] at he
    obtain ⟨hh, o, u, hP, -, ho, -, -⟩ := J.1.2.2.1 (4 * i + q) (by omega)
    have hg : fc_get s (100 + (4 * i + q)) 0 1 = o := by unfold fc_get; rw [hP]; rfl
    have h12 := h1.2
    rw [hg] at h12
    rcases ho with rfl | ⟨m, hm, rfl⟩
    · simp at h12
    have hmate : fc_mate s (4 * i + q) = m := by unfold fc_mate; rw [hg]; exact nI_clamp (by omega)
    rw [hmate]
    have hne : 0 < (s (200 + (4 * i + q))).length := by
      cases hs : s (200 + (4 * i + q)) with
      | nil => rw [hs] at he; simp at he
      | cons a b => simp
    have hr := List.getElem?_eq_getElem hne
    have J' : fz_J own W ns room (fc_del s (200 + (4 * i + q)) 0) := J.same (J.1.delW 0 (by omega)) (fc_del_ne _ (by omega)) (fc_del_ne _ (by omega)) (fun j hj => ⟨fc_del_ne _ (by omega), fc_del_ne _ (by omega), fc_del_ne _ (by omega)⟩)
    rcases (J.1.2.2.2.1 (4 * i + q) (by omega)).2 _ (List.getElem_mem hne) with ⟨f, t, nr, hf, ht, e⟩ | ⟨o, ho, e⟩
    · rw [e] at hr
      show fz_J own W ns room (if _ then _ else _)
      rw [fc_get_row hr, fc_get_row hr, fc_get_row hr]
      show fz_J own W ns room (if nI f = -1 then _ else fc_in _ _ _ (nI f) (nI t) nr)
      rw [if_neg (fun z => absurd (congrArg Int32.toInt z) (by rw [nI_toInt (by omega)]; rw [show (-1 : Int32).toInt = -1 from rfl]; omega))]
      exact J'.come (by omega) (by omega) hf ht nr
    · rw [e] at hr
      show fz_J own W ns room (if _ then _ else _)
      rw [fc_get_row hr, fc_get_row hr, fc_get_row hr]
      show fz_J own W ns room (if (-1 : Int32) = -1 then fc_slight _ _ [1, _, nI o, -1, 0] else _)
      rw [if_pos rfl]
      exact J'.slight (by omega) (Or.inr (Or.inl ⟨m % 4, o, by omega, ho, rfl⟩)) rfl
  · exact J
end ING
