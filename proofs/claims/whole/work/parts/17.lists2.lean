/-! a list is emptied; an array is filled -/
section JDM
variable {g : am_G} {S : am_S} {e t w : Nat} {as : List Nat}
theorem al_clear (o : am_ok S) (ht : t ≠ 0) (h : am_li e S t w as) : am_M g y_AL_clear "()V" 0 0 [.ref w] S (fun v S' => v = none ∧ am_li e S' t w [] ∧ am_fr (am_lX t) S S' ∧ S'.2 = S.2) := by
  obtain ⟨mc, ea, ta, vs, h1, h2, h3, h4, h5⟩ := h
  have hta : ta ≠ t := by rcases h5 with h5 | h5 <;> omega
  have key : ∀ (m i : Nat) (S1 : am_S) (ws : List Value), i + m = as.length → ws.length = as.length + vs.length → S1.1 w = some (t, .inr (am_cAL, [.int (mc + nI 1), .ref ea, .int (nI 0)])) → S1.1 ea = some (ta, .inl (am_kO, ws)) → am_fr (am_lX t) S S1 → S1.2 = S.2 → am_W g y_AL_clear 0 0 (fun v S' => v = none ∧ am_li e S' t w [] ∧ am_fr (am_lX t) S S' ∧ S'.2 = S.2) 27 [some (.ref w), some (.ref ea), some (.int (nI as.length)), some (.int (nI i))] [] S1 := by
    intro m
    induction m with
    | zero =>
      intro i S1 ws hi kl k1 k2 kf kc
      refine am_iload_n d_AL_clear_27 rfl ?_
      refine am_iload_n d_AL_clear_28 rfl ?_
      refine am_icmp_geN (tgt := 42) d_AL_clear_29 (by decide) (by omega) (by omega) (fun _ => ?_) (fun q => absurd q (by omega))
      refine am_vret d_AL_clear_42 rfl ?_
      refine ⟨rfl, ⟨mc + nI 1, ea, ta, ws, k1, k2, by simp, by simp; omega, ?_⟩, kf, kc⟩
      rcases h5 with h5 | h5
      · exact Or.inl ⟨h5.1, by simp; omega⟩
      · obtain ⟨e1, e2, rfl, rfl⟩ := h5
        exact Or.inr ⟨e1, e2, rfl, List.length_eq_zero_iff.mp kl⟩
    | succ m ih =>
      intro i S1 ws hi kl k1 k2 kf kc
      have htt : ta = t + 1 := by
        rcases h5 with h5 | h5
        · exact h5.1
        · obtain ⟨-, -, rfl, -⟩ := h5
          simp at hi
      refine am_iload_n d_AL_clear_27 rfl ?_
      refine am_iload_n d_AL_clear_28 rfl ?_
      refine am_icmp_geN (tgt := 42) d_AL_clear_29 (by decide) (by omega) (by omega) (fun q => absurd q (by omega)) (fun _ => ?_)
      refine am_aload_n d_AL_clear_32 rfl (by first | exact am_rvR _ | exact am_rvN | assumption) ?_
      refine am_iload_n d_AL_clear_33 rfl ?_
      refine am_null d_AL_clear_34 ?_
      refine am_aastN (j := i) d_AL_clear_35 am_kO_ok k2 (by omega) rfl (by omega) (by omega) ?_
      first | refine am_iincN (b := 1) (L1 := [_, _, _, _]) d_AL_clear_36 rfl (by decide) (by decide) rfl ?_ | refine am_iinc (L1 := [_, _, _, _]) d_AL_clear_36 rfl rfl (by decide) rfl ?_
      refine am_goto (tgt := 27) d_AL_clear_39 (by decide) ?_
      exact ih (i + 1) _ (ws.set i .null) (by omega) (by simpa using kl) (am_up_tag k1 k2 hta) (am_up_at _ _ _ _) (kf.trans (am_fr.up k2 (Or.inr htt))) kc
  refine am_Mof (L0 := [some (.ref w), none, none, none]) pl_AL_clear (am_k1 rfl am_k0) (Nat.le_of_ble_eq_true rfl) rfl ?_
  refine am_aload_n d_AL_clear_0 rfl (by first | exact am_rvR _ | exact am_rvN | assumption) ?_
  refine am_dup d_AL_clear_1 rfl ?_
  refine am_get d_AL_clear_2 f_AL_63 (by first | assumption | exact am_up_at _ _ _ _) (by rfl) ?_
  refine am_iconst (v := nI 1) d_AL_clear_5 (by decide) ?_
  first | refine am_iaddN d_AL_clear_6 ?_ | refine am_iadd d_AL_clear_6 ?_
  refine am_put _ d_AL_clear_7 f_AL_63 (p_AL_63 _) h1 ht rfl rfl ?_
  have k1' := am_up_at S w t (.inr (am_cAL, [.int (mc + nI 1), .ref ea, .int (nI as.length)]))
  have k2' := am_up_tag (t' := t) (x' := .inr (am_cAL, [.int (mc + nI 1), .ref ea, .int (nI as.length)])) h2 h1 (Ne.symm hta)
  refine am_aload_n d_AL_clear_10 rfl (by first | exact am_rvR _ | exact am_rvN | assumption) ?_
  refine am_get d_AL_clear_11 f_AL_9 (by first | assumption | exact am_up_at _ _ _ _) (by rfl) ?_
  refine am_astore_n (L1 := [_, _, _, _]) d_AL_clear_14 (by decide) (by first | exact am_rvR _ | exact am_rvN | assumption) rfl ?_
  refine am_aload_n d_AL_clear_15 rfl (by first | exact am_rvR _ | exact am_rvN | assumption) ?_
  refine am_get d_AL_clear_16 f_AL_48 (by first | assumption | exact am_up_at _ _ _ _) (by rfl) ?_
  refine am_istore_n (L1 := [_, _, _, _]) d_AL_clear_19 (by decide) rfl ?_
  refine am_aload_n d_AL_clear_20 rfl (by first | exact am_rvR _ | exact am_rvN | assumption) ?_
  refine am_iconst (v := nI 0) d_AL_clear_21 (by decide) ?_
  refine am_dup_x1 d_AL_clear_22 rfl rfl ?_
  refine am_put _ d_AL_clear_23 f_AL_48 (p_AL_48 _) k1' ht rfl rfl ?_
  refine am_istore_n (L1 := [_, _, _, _]) d_AL_clear_26 (by decide) rfl ?_
  exact key as.length 0 _ _ (by omega) (by simp) (am_up_at _ _ _ _) (am_up_tag k2' k1' (Ne.symm hta)) ((am_fr.up h1 (Or.inl rfl)).trans (am_fr.up k1' (Or.inl rfl))) rfl
theorem jd_fill {a tg : Nat} {xs : List Value} (x : Int32) (ha : S.1 a = some (tg, .inl (am_kI, xs))) (ht : tg ≠ 0) (hl : xs.length < 2 ^ 30) : am_M g y_As_fill "([II)V" 0 0 [.ref a, .int x] S (fun v S' => v = none ∧ S' = am_up S a tg (.inl (am_kI, List.replicate xs.length (.int x)))) := by
  have key : ∀ (m i : Nat) (S1 : am_S), i + m = xs.length → S1 = am_up S a tg (.inl (am_kI, List.replicate i (.int x) ++ xs.drop i)) → am_W g y_As_fill 0 0 (fun v S' => v = none ∧ S' = am_up S a tg (.inl (am_kI, List.replicate xs.length (.int x)))) 5 [some (.ref a), some (.int x), some (.int (nI i)), some (.int (nI xs.length))] [] S1 := by
    intro m
    induction m with
    | zero =>
      intro i S1 hi k1
      refine am_iload_n d_As_fill_5 rfl ?_
      refine am_iload_n d_As_fill_6 rfl ?_
      refine am_icmp_geN (tgt := 20) d_As_fill_7 (by decide) (by omega) (by omega) (fun _ => ?_) (fun q => absurd q (by omega))
      refine am_vret d_As_fill_20 rfl ?_
      have e1 : i = xs.length := by omega
      subst e1
      refine ⟨rfl, ?_⟩
      rw [k1, List.drop_length, List.append_nil]
    | succ m ih =>
      intro i S1 hi k1
      have k2 : S1.1 a = some (tg, .inl (am_kI, List.replicate i (.int x) ++ xs.drop i)) := by rw [k1]; exact am_up_at _ _ _ _
      refine am_iload_n d_As_fill_5 rfl ?_
      refine am_iload_n d_As_fill_6 rfl ?_
      refine am_icmp_geN (tgt := 20) d_As_fill_7 (by decide) (by omega) (by omega) (fun q => absurd q (by omega)) (fun _ => ?_)
      refine am_aload_n d_As_fill_10 rfl (by first | exact am_rvR _ | exact am_rvN | assumption) ?_
      refine am_iload_n d_As_fill_11 rfl ?_
      refine am_iload_n d_As_fill_12 rfl ?_
      refine am_iast (j := i) d_As_fill_13 am_kI_ok k2 ht rfl (by simp; omega) (by simp; omega) ?_
      first | refine am_iincN (b := 1) (L1 := [_, _, _, _]) d_As_fill_14 rfl (by decide) (by decide) rfl ?_ | refine am_iinc (L1 := [_, _, _, _]) d_As_fill_14 rfl rfl (by decide) rfl ?_
      refine am_goto (tgt := 5) d_As_fill_17 (by decide) ?_
      refine ih (i + 1) _ (by omega) ?_
      rw [k1, am_up_up]
      congr 3
      apply List.ext_getElem
      · simp; omega
      · intro q h1 h2
        simp at h1
        simp only [List.getElem_set, List.getElem_append, List.length_replicate, List.getElem_replicate, List.getElem_drop]
        by_cases c1 : i = q
        · subst c1; simp
        · by_cases c2 : q < i
          · simp [c1, c2, show q < i + 1 by omega]
          · simp only [c1, c2, show ¬ q < i + 1 by omega, if_false, dif_neg, not_false_eq_true]
            congr 1
            omega
  refine am_Mof (L0 := [some (.ref a), some (.int x), none, none]) pl_As_fill (am_k1 rfl (am_k1 rfl am_k0)) (Nat.le_of_ble_eq_true rfl) rfl ?_
  refine am_iconst (v := nI 0) d_As_fill_0 (by decide) ?_
  refine am_istore_n (L1 := [_, _, _, _]) d_As_fill_1 (by decide) rfl ?_
  refine am_aload_n d_As_fill_2 rfl (by first | exact am_rvR _ | exact am_rvN | assumption) ?_
  refine am_alen (v := nI xs.length) d_As_fill_3 am_kI_ok ha rfl ?_
  refine am_istore_n (L1 := [_, _, _, _]) d_As_fill_4 (by decide) rfl ?_
  exact key xs.length 0 S (by omega) (am_up_id ha).symm
end JDM
