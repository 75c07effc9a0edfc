/-! the JDK's methods: contracts -/
theorem am_k0 : ∀ u ∈ ([] : List Value), u.category = 1 := fun _ h => by cases h
theorem am_k1 {v : Value} {vs : List Value} (h : v.category = 1) (hs : ∀ u ∈ vs, u.category = 1) : ∀ u ∈ v :: vs, u.category = 1 := List.forall_mem_cons.mpr ⟨h, hs⟩
theorem am_Mof {g : am_G} {y : am_N} {desc : String} {d lo : Nat} {vs : List Value} {S : am_S} {post : Option Value → am_S → Prop} {L0 : List (Option Value)} (hy : plainFor ⟨y.1, y.2.1, desc⟩ = true) (hc : ∀ v ∈ vs, v.category = 1) (hl : vs.length ≤ y.2.2.2.1) (hL : am_L0 vs y.2.2.2.1 = L0)
    (h : am_W g y d lo post 0 L0 [] S) : am_M g y desc d lo vs S post := by
  subst hL
  obtain ⟨v, S', h1, h2, h3, h4⟩ := h
  refine ⟨v, S', h1, h2, ?_, h4⟩
  unfold am_N0
  refine va_MetF (cc := y.2.2.1) (maxL := y.2.2.2.1) (ret := y.2.2.2.2) hy rfl ?_
  intro p e s m args below meth c s₁ B hml hv
  obtain ⟨rfl, hT, hR⟩ := hv
  rw [entry_eq m vs hc]
  exact h3 p e s m _ below meth c s.heap [] 0 0 _ _ _ ⟨B.exec, B.bytes, hml, B.returns, B.notSynchronized, findClass_of_methodNamed B.named, (name_of_methodNamed B.named B.method).1, hT, by omega, by omega, (fun _ h => by cases h), hR, am_L.entry vs hc hl⟩
theorem gm_Mof {σ : Type} {P : σ → am_S → Prop} {X : Nat → Prop} {g : am_G} {y : am_N} {desc : String} {d lo : Nat} {vs : List Value} {s : σ} {post : Option Value → σ → Prop} {L0 : List (Option Value)} (hy : plainFor ⟨y.1, y.2.1, desc⟩ = true) (hc : ∀ v ∈ vs, v.category = 1) (hl : vs.length ≤ y.2.2.2.1) (hL : am_L0 vs y.2.2.2.1 = L0) (h : gm_W P X g y d lo post 0 L0 [] s) : gm_M P X g y desc d lo vs post s := fun S hS => am_Mof hy hc hl hL (h S hS)
/-- the static that ArrayList's empty lists share -/
def am_gE (g : am_G) (e : Nat) : Prop := ("java/util/ArrayList", "DEFAULTCAPACITY_EMPTY_ELEMENTDATA", "[Ljava/lang/Object;", Value.ref e) ∈ g.sta
/-- a list of the JDK: its object w with the tag t, its array with the tag t + 1 (or the shared empty one, e), the addresses that it holds -/
def am_li (e : Nat) (S : am_S) (t w : Nat) (as : List Nat) : Prop := ∃ (mc : Int32) (ea ta : Nat) (vs : List Value), S.1 w = some (t, .inr (am_cAL, [.int mc, .ref ea, .int (nI as.length)])) ∧ S.1 ea = some (ta, .inl (am_kO, as.map Value.ref ++ vs)) ∧ as.length ≤ 60 ∧ as.length + vs.length ≤ 90 ∧ ((ta = t + 1 ∧ 1 ≤ as.length + vs.length) ∨ (ta = 0 ∧ ea = e ∧ as = [] ∧ vs = []))
/-- what a call of a list may change -/
def am_lX (t : Nat) : Nat → Prop := fun u => u = t ∨ u = t + 1
section JDK
variable {g : am_G} {S : am_S} {e t w : Nat} {as : List Nat}

theorem jd_max (x z : Int32) : am_M g y_Mt_max "(II)I" 0 0 [.int x, .int z] S (fun v S' => v = some (.int (if x < z then z else x)) ∧ S' = S) := by
  refine am_Mof (L0 := [some (.int x), some (.int z)]) pl_Mt_max (am_k1 rfl (am_k1 rfl am_k0)) (Nat.le_of_ble_eq_true rfl) rfl ?_
  refine am_iload_n d_Mt_max_0 rfl ?_
  refine am_iload_n d_Mt_max_1 rfl ?_
  refine am_icmp_lt (tgt := 9) d_Mt_max_2 (by decide) (fun q => ?_) (fun q => ?_)
  · refine am_iload_n d_Mt_max_9 rfl ?_
    refine am_iret d_Mt_max_10 rfl rfl ?_
    exact ⟨by rw [if_pos q], rfl⟩
  · refine am_iload_n d_Mt_max_5 rfl ?_
    refine am_goto (tgt := 10) d_Mt_max_6 (by decide) ?_
    refine am_iret d_Mt_max_10 rfl rfl ?_
    exact ⟨by rw [if_neg q], rfl⟩
theorem jd_min (x z : Int32) : am_M g y_Mt_min "(II)I" 0 0 [.int x, .int z] S (fun v S' => v = some (.int (if z < x then z else x)) ∧ S' = S) := by
  refine am_Mof (L0 := [some (.int x), some (.int z)]) pl_Mt_min (am_k1 rfl (am_k1 rfl am_k0)) (Nat.le_of_ble_eq_true rfl) rfl ?_
  refine am_iload_n d_Mt_min_0 rfl ?_
  refine am_iload_n d_Mt_min_1 rfl ?_
  refine am_icmp_gt (tgt := 9) d_Mt_min_2 (by decide) (fun q => ?_) (fun q => ?_)
  · refine am_iload_n d_Mt_min_9 rfl ?_
    refine am_iret d_Mt_min_10 rfl rfl ?_
    exact ⟨by rw [if_pos q], rfl⟩
  · refine am_iload_n d_Mt_min_5 rfl ?_
    refine am_goto (tgt := 10) d_Mt_min_6 (by decide) ?_
    refine am_iret d_Mt_min_10 rfl rfl ?_
    exact ⟨by rw [if_neg q], rfl⟩
theorem jd_pci {k n : Nat} (h : k < n) (hn : n < 2 ^ 31) : am_M g y_Pr_checkIndex "(IILjava/util/function/BiFunction;)I" 0 0 [.int (nI k), .int (nI n), .null] S (fun v S' => v = some (.int (nI k)) ∧ S' = S) := by
  refine am_Mof (L0 := [some (.int (nI k)), some (.int (nI n)), some (.null)]) pl_Pr_checkIndex (am_k1 rfl (am_k1 rfl (am_k1 rfl am_k0))) (Nat.le_of_ble_eq_true rfl) rfl ?_
  refine am_iload_n d_Pr_checkIndex_0 rfl ?_
  refine am_if_ltN (tgt := 9) d_Pr_checkIndex_1 (by decide) (by omega) (fun q => absurd q (by omega)) (fun _ => ?_)
  refine am_iload_n d_Pr_checkIndex_4 rfl ?_
  refine am_iload_n d_Pr_checkIndex_5 rfl ?_
  refine am_icmp_ltN (tgt := 16) d_Pr_checkIndex_6 (by decide) (by omega) (by omega) (fun _ => ?_) (fun q => absurd h (by omega))
  refine am_iload_n d_Pr_checkIndex_16 rfl ?_
  refine am_iret d_Pr_checkIndex_17 rfl rfl ?_
  exact ⟨rfl, rfl⟩
theorem jd_oci {k n : Nat} (h : k < n) (hn : n < 2 ^ 31) : am_M g y_Ob_checkIndex "(II)I" 1 22 [.int (nI k), .int (nI n)] S (fun v S' => v = some (.int (nI k)) ∧ S' = S) := by
  refine am_Mof (L0 := [some (.int (nI k)), some (.int (nI n))]) pl_Ob_checkIndex (am_k1 rfl (am_k1 rfl am_k0)) (Nat.le_of_ble_eq_true rfl) rfl ?_
  refine am_iload_n d_Ob_checkIndex_0 rfl ?_
  refine am_iload_n d_Ob_checkIndex_1 rfl ?_
  refine am_null d_Ob_checkIndex_2 ?_
  refine am_cS d_Ob_checkIndex_3 s_Ob_105 (vs := [.int (nI k), .int (nI n), .null]) (st := []) rfl rfl (by decide) (Nat.le_of_ble_eq_true rfl) (jd_pci h hn) ?_
  rintro v S1 ⟨rfl, rfl⟩
  refine am_iret d_Ob_checkIndex_6 rfl rfl ?_
  exact ⟨rfl, rfl⟩
theorem al_size (h : am_li e S t w as) : am_M g y_AL_size "()I" 0 0 [.ref w] S (fun v S' => v = some (.int (nI as.length)) ∧ S' = S) := by
  obtain ⟨mc, ea, ta, vs, h1, h2, h3, h4, h5⟩ := h
  refine am_Mof (L0 := [some (.ref w)]) pl_AL_size (am_k1 rfl am_k0) (Nat.le_of_ble_eq_true rfl) rfl ?_
  refine am_aload_n d_AL_size_0 rfl (by first | exact am_rvR _ | exact am_rvN | assumption) ?_
  refine am_get d_AL_size_1 f_AL_48 (by first | assumption | exact am_up_at _ _ _ _) (by rfl) ?_
  refine am_iret d_AL_size_4 rfl rfl ?_
  exact ⟨rfl, rfl⟩
theorem al_isEmpty (h : am_li e S t w as) : am_M g y_AL_isEmpty "()Z" 0 0 [.ref w] S (fun v S' => v = some (.int (am_b as.isEmpty)) ∧ S' = S) := by
  obtain ⟨mc, ea, ta, vs, h1, h2, h3, h4, h5⟩ := h
  refine am_Mof (L0 := [some (.ref w)]) pl_AL_isEmpty (am_k1 rfl am_k0) (Nat.le_of_ble_eq_true rfl) rfl ?_
  refine am_aload_n d_AL_isEmpty_0 rfl (by first | exact am_rvR _ | exact am_rvN | assumption) ?_
  refine am_get d_AL_isEmpty_1 f_AL_48 (by first | assumption | exact am_up_at _ _ _ _) (by rfl) ?_
  first | refine am_if_neB (tgt := 11) d_AL_isEmpty_4 (by decide) (fun q1 => ?_) (fun q1 => ?_) | refine am_if_neN (tgt := 11) d_AL_isEmpty_4 (by decide) (by omega) (fun q1 => ?_) (fun q1 => ?_) | refine am_if_ne (tgt := 11) d_AL_isEmpty_4 (by decide) (fun q1 => ?_) (fun q1 => ?_)
  · refine am_iconst (v := nI 0) d_AL_isEmpty_11 (by decide) ?_
    refine am_iret d_AL_isEmpty_12 rfl (by first | rfl | exact am_b_nar _) ?_
    exact ⟨by cases as <;> first | rfl | exact absurd rfl q1 | (simp at q1), rfl⟩
  · refine am_iconst (v := nI 1) d_AL_isEmpty_7 (by decide) ?_
    refine am_goto (tgt := 12) d_AL_isEmpty_8 (by decide) ?_
    refine am_iret d_AL_isEmpty_12 rfl (by first | rfl | exact am_b_nar _) ?_
    exact ⟨by cases as <;> first | rfl | exact absurd rfl q1 | (simp at q1), rfl⟩
theorem al_el {k a : Nat} (h : am_li e S t w as) (ha : as[k]? = some a) : am_M g y_AL_elementData "(I)Ljava/lang/Object;" 0 0 [.ref w, .int (nI k)] S (fun v S' => v = some (.ref a) ∧ S' = S) := by
  obtain ⟨mc, ea, ta, vs, h1, h2, h3, h4, h5⟩ := h
  refine am_Mof (L0 := [some (.ref w), some (.int (nI k))]) pl_AL_elementData (am_k1 rfl (am_k1 rfl am_k0)) (Nat.le_of_ble_eq_true rfl) rfl ?_
  have hk := (List.getElem?_eq_some_iff.mp ha).1
  refine am_aload_n d_AL_elementData_0 rfl (by first | exact am_rvR _ | exact am_rvN | assumption) ?_
  refine am_get d_AL_elementData_1 f_AL_9 (by first | assumption | exact am_up_at _ _ _ _) (by rfl) ?_
  refine am_iload_n d_AL_elementData_4 rfl ?_
  refine am_aald d_AL_elementData_5 am_kO_ok rfl h2 rfl (by rw [List.getElem?_append_left (by simpa using hk), List.getElem?_map, ha]; rfl) (by simp; omega) ?_
  refine am_aret d_AL_elementData_6 rfl (by first | exact Or.inl ⟨_, rfl⟩ | exact Or.inr ⟨_, rfl⟩) (by first | exact am_rvR _ | exact am_rvN | assumption) ?_
  exact ⟨rfl, rfl⟩
theorem al_get {k a : Nat} (h : am_li e S t w as) (ha : as[k]? = some a) : am_M g y_AL_get "(I)Ljava/lang/Object;" 2 43 [.ref w, .int (nI k)] S (fun v S' => v = some (.ref a) ∧ S' = S) := by
  refine am_Mof (L0 := [some (.ref w), some (.int (nI k))]) pl_AL_get (am_k1 rfl (am_k1 rfl am_k0)) (Nat.le_of_ble_eq_true rfl) rfl ?_
  have hk := (List.getElem?_eq_some_iff.mp ha).1
  have h0 := h
  obtain ⟨mc, ea, ta, vs, h1, h2, h3, h4, h5⟩ := h
  refine am_iload_n d_AL_get_0 rfl ?_
  refine am_aload_n d_AL_get_1 rfl (by first | exact am_rvR _ | exact am_rvN | assumption) ?_
  refine am_get d_AL_get_2 f_AL_48 (by first | assumption | exact am_up_at _ _ _ _) (by rfl) ?_
  refine am_cS d_AL_get_5 s_AL_118 (vs := [.int (nI k), .int (nI as.length)]) (st := []) rfl rfl (by decide) (Nat.le_of_ble_eq_true rfl) (jd_oci hk (by omega)) ?_
  rintro v S1 ⟨rfl, rfl⟩
  refine am_pop d_AL_get_8 rfl ?_
  refine am_aload_n d_AL_get_9 rfl (by first | exact am_rvR _ | exact am_rvN | assumption) ?_
  refine am_iload_n d_AL_get_10 rfl ?_
  refine am_cV d_AL_get_11 v_AL_123 (vs := [.int (nI k)]) (st := []) rfl rfl (by decide) (Nat.le_of_ble_eq_true rfl) h1 (al_el h0 ha) ?_
  rintro v S1 ⟨rfl, rfl⟩
  refine am_aret d_AL_get_14 rfl (by first | exact Or.inl ⟨_, rfl⟩ | exact Or.inr ⟨_, rfl⟩) (by first | exact am_rvR _ | exact am_rvN | assumption) ?_
  exact ⟨rfl, rfl⟩
end JDK
