/-! the class: orders obeyed, old rules dropped -/
section CNJ
variable {g : am_G} {e nw ns room idle : Nat} {A : Nat → Nat} {s : cl_S} {S : am_S}
theorem nd_does (hn : ns ≤ 5) (hS : cl_P e nw ns room idle A s S) {i : Nat} (hi : i < ns) (he : am_gE g e) (I : fc_iD ns room s.1) {m : Nat} {row : List Int32} (hok : fc_oOk row) (hm : S.1 m = some (0, .inr (am_cMs, row.map Value.int))) : am_M g y_Nd_carryOut "(LFlowFabric$Message;I)V" 9 198 [.ref (A (50 + i)), .ref m, .int (fc_now s.1)] S (fun v S' => v = none ∧ cl_Q e nw ns room idle A s S (fc_does room s.1 i row) 9 600 S') := by
  have I' := I
  obtain ⟨⟨-, -, -, hroom⟩, IH, IP, IW, IG, IR, IL, -⟩ := I'
  have hL4 : cl_isL ns (40 + i) := by unfold cl_isL; omega
  have hlen := (IL i hi).2.1
  refine am_Mof (L0 := [some (.ref (A (50 + i))), some (.ref m), some (.int (fc_now s.1))]) pl_Nd_carryOut (am_k1 rfl (am_k1 rfl (am_k1 rfl am_k0))) (Nat.le_of_ble_eq_true rfl) rfl ?_
  rcases hok with ⟨p, f, t, hp, hf, ht, rfl⟩ | ⟨f, t, hf, ht, rfl⟩ | ⟨wv, rfl⟩ | ⟨bt, nr, f, t, hf, ht, rfl⟩ | ⟨nr, f, t, hf, ht, rfl⟩ | rfl
  · refine am_aload_n d_Nd_carryOut_0 rfl (by first | exact am_rvR _ | exact am_rvN | assumption) ?_
    refine am_get d_Nd_carryOut_1 f_Nd_147 hm (by rfl) ?_
    refine am_tableIn (off := 40) (tgt := 44) d_Nd_carryOut_4 (by decide) (by decide) (by decide) (by decide) ?_
    refine am_aload_n d_Nd_carryOut_44 rfl (by first | exact am_rvR _ | exact am_rvN | assumption) ?_
    refine am_aload_n d_Nd_carryOut_45 rfl (by first | exact am_rvR _ | exact am_rvN | assumption) ?_
    refine am_iload_n d_Nd_carryOut_46 rfl ?_
    refine am_cV (b := A (50 + i)) d_Nd_carryOut_47 v_Nd_150 (vs := [.ref m, .int (fc_now s.1)]) (st := []) rfl rfl (by decide) (Nat.le_of_ble_eq_true rfl) (cl_node hS hi) (nd_putr hn hS hi he I hm) ?_
    rintro v S2 ⟨rfl, hq⟩
    refine am_goto (tgt := 122) d_Nd_carryOut_50 (by decide) ?_
    refine am_vret d_Nd_carryOut_122 rfl ?_
    exact ⟨rfl, hq.wide (by omega) (by omega)⟩
  · refine am_aload_n d_Nd_carryOut_0 rfl (by first | exact am_rvR _ | exact am_rvN | assumption) ?_
    refine am_get d_Nd_carryOut_1 f_Nd_147 hm (by rfl) ?_
    refine am_tableIn (off := 49) (tgt := 53) d_Nd_carryOut_4 (by decide) (by decide) (by decide) (by decide) ?_
    refine am_aload_n d_Nd_carryOut_53 rfl (by first | exact am_rvR _ | exact am_rvN | assumption) ?_
    refine am_aload_n d_Nd_carryOut_54 rfl (by first | exact am_rvR _ | exact am_rvN | assumption) ?_
    refine am_get d_Nd_carryOut_55 f_Nd_154 hm (by rfl) ?_
    refine am_aload_n d_Nd_carryOut_58 rfl (by first | exact am_rvR _ | exact am_rvN | assumption) ?_
    refine am_get d_Nd_carryOut_59 f_Nd_155 hm (by rfl) ?_
    refine am_cV (b := A (50 + i)) d_Nd_carryOut_62 v_Nd_156 (vs := [.int (nI f), .int (nI t)]) (st := []) rfl rfl (by decide) (Nat.le_of_ble_eq_true rfl) (cl_node hS hi) (nd_cut hn hS hi IR hroom _ _) ?_
    rintro v S2 ⟨rfl, hq⟩
    refine am_goto (tgt := 122) d_Nd_carryOut_65 (by decide) ?_
    refine am_vret d_Nd_carryOut_122 rfl ?_
    exact ⟨rfl, hq.wide (by omega) (by omega)⟩
  · refine am_aload_n d_Nd_carryOut_0 rfl (by first | exact am_rvR _ | exact am_rvN | assumption) ?_
    refine am_get d_Nd_carryOut_1 f_Nd_147 hm (by rfl) ?_
    refine am_tableIn (off := 64) (tgt := 68) d_Nd_carryOut_4 (by decide) (by decide) (by decide) (by decide) ?_
    refine am_aload_n d_Nd_carryOut_68 rfl (by first | exact am_rvR _ | exact am_rvN | assumption) ?_
    refine am_get d_Nd_carryOut_69 f_Nd_38 (cl_node hS hi) (by rfl) ?_
    refine am_iconst (v := (2)) d_Nd_carryOut_72 (by decide) ?_
    refine am_aload_n d_Nd_carryOut_73 rfl (by first | exact am_rvR _ | exact am_rvN | assumption) ?_
    refine am_get d_Nd_carryOut_74 f_Nd_160 hm (by rfl) ?_
    refine am_cS d_Nd_carryOut_77 s_Nd_55 (vs := [.int 2, .int wv]) (st := [.ref (A (40 + i))]) rfl rfl (by decide) (Nat.le_of_ble_eq_true rfl) (mk_ofValue 2 wv) ?_
    rintro v S3 ⟨rfl, rfl⟩
    obtain ⟨hS3, hf3, hmm⟩ := cl_newM hS (c := 40 + i) (by omega) (by omega) 2 wv (-1) (-1) 0
    refine am_cV (b := A (40 + i)) d_Nd_carryOut_80 v_Nd_61 (vs := [.ref _]) (st := []) rfl rfl (by decide) (Nat.le_of_ble_eq_true rfl) (cl_list hS3 hL4).1.choose_spec.choose_spec.choose_spec.choose_spec.1 (cl_addM (row := [2, wv, -1, -1, 0]) hn he hS3 hL4 (show (s.1 (40 + i)).length < 60 by omega) hmm (fun z => by omega)) ?_
    rintro v S4 ⟨rfl, hS4, hf4⟩
    refine am_pop d_Nd_carryOut_83 rfl ?_
    refine am_goto (tgt := 122) d_Nd_carryOut_84 (by decide) ?_
    refine am_vret d_Nd_carryOut_122 rfl ?_
    refine ⟨rfl, _, ?_, ⟨by show s.2.2.1 + 1 + 1 ≤ _; omega, by show s.2.2.2 + 5 + 90 ≤ _; omega⟩, hS4, hf3.trans hf4⟩
    rfl
  · refine am_aload_n d_Nd_carryOut_0 rfl (by first | exact am_rvR _ | exact am_rvN | assumption) ?_
    refine am_get d_Nd_carryOut_1 f_Nd_147 hm (by rfl) ?_
    refine am_tableIn (off := 83) (tgt := 87) d_Nd_carryOut_4 (by decide) (by decide) (by decide) (by decide) ?_
    refine am_aload_n d_Nd_carryOut_87 rfl (by first | exact am_rvR _ | exact am_rvN | assumption) ?_
    refine am_aload_n d_Nd_carryOut_88 rfl (by first | exact am_rvR _ | exact am_rvN | assumption) ?_
    refine am_get d_Nd_carryOut_89 f_Nd_160 hm (by rfl) ?_
    refine am_aload_n d_Nd_carryOut_92 rfl (by first | exact am_rvR _ | exact am_rvN | assumption) ?_
    refine am_cV (b := m) d_Nd_carryOut_93 v_Nd_163 (vs := []) (st := [.int bt, .ref (A (50 + i))]) rfl rfl (by decide) (Nat.le_of_ble_eq_true rfl) hm (mk_toDg hS.1.1 hm) ?_
    rintro v S3 ⟨rfl, rfl⟩
    obtain ⟨hS3, hf3⟩ := hS.mk (z := 3) (x := .inr (am_cDg, [.int (nI f), .int (nI t), .int nr]))
    have hb3 := am_mk_at S 0 3 (.inr (am_cDg, [.int (nI f), .int (nI t), .int nr]))
    refine am_cV (b := A (50 + i)) d_Nd_carryOut_96 v_Nd_167 (vs := [.int bt, .ref _]) (st := []) rfl rfl (by decide) (Nat.le_of_ble_eq_true rfl) (cl_node hS3 hi) (nd_outs hn hS3 hi he IP IH IW hb3 (cl_ix_ne (by omega)) (Or.inl ⟨f, t, nr, hf, ht, rfl⟩) bt) ?_
    rintro v S4 ⟨rfl, hq⟩
    refine am_goto (tgt := 122) d_Nd_carryOut_99 (by decide) ?_
    refine am_vret d_Nd_carryOut_122 rfl ?_
    exact ⟨rfl, hq.from hf3 (by show s.2.2.1 + 1 + 5 ≤ _; omega) (by show s.2.2.2 + 3 + 400 ≤ _; omega)⟩
  · refine am_aload_n d_Nd_carryOut_0 rfl (by first | exact am_rvR _ | exact am_rvN | assumption) ?_
    refine am_get d_Nd_carryOut_1 f_Nd_147 hm (by rfl) ?_
    refine am_tableIn (off := 98) (tgt := 102) d_Nd_carryOut_4 (by decide) (by decide) (by decide) (by decide) ?_
    refine am_aload_n d_Nd_carryOut_102 rfl (by first | exact am_rvR _ | exact am_rvN | assumption) ?_
    refine am_aload_n d_Nd_carryOut_103 rfl (by first | exact am_rvR _ | exact am_rvN | assumption) ?_
    refine am_cV (b := m) d_Nd_carryOut_104 v_Nd_163 (vs := []) (st := [.ref (A (50 + i))]) rfl rfl (by decide) (Nat.le_of_ble_eq_true rfl) hm (mk_toDg hS.1.1 hm) ?_
    rintro v S3 ⟨rfl, rfl⟩
    obtain ⟨hS3, hf3⟩ := hS.mk (z := 3) (x := .inr (am_cDg, [.int (nI f), .int (nI t), .int nr]))
    have hb3 := am_mk_at S 0 3 (.inr (am_cDg, [.int (nI f), .int (nI t), .int nr]))
    refine am_iconst (v := (4)) d_Nd_carryOut_107 (by decide) ?_
    refine am_iload_n d_Nd_carryOut_108 rfl ?_
    refine am_cV (b := A (50 + i)) d_Nd_carryOut_109 v_Nd_105 (vs := [.ref _, .int 4, .int (fc_now s.1)]) (st := []) rfl rfl (by decide) (Nat.le_of_ble_eq_true rfl) (cl_node hS3 hi) (nd_rules hn hS3 hi he I hb3 (cl_ix_ne (by omega)) 4) ?_
    rintro v S4 ⟨rfl, hq⟩
    refine am_goto (tgt := 122) d_Nd_carryOut_112 (by decide) ?_
    refine am_vret d_Nd_carryOut_122 rfl ?_
    exact ⟨rfl, hq.from hf3 (by show s.2.2.1 + 1 + 3 ≤ _; omega) (by show s.2.2.2 + 3 + 200 ≤ _; omega)⟩
  · refine am_aload_n d_Nd_carryOut_0 rfl (by first | exact am_rvR _ | exact am_rvN | assumption) ?_
    refine am_get d_Nd_carryOut_1 f_Nd_147 hm (by rfl) ?_
    refine am_tableIn (off := 111) (tgt := 115) d_Nd_carryOut_4 (by decide) (by decide) (by decide) (by decide) ?_
    refine am_aload_n d_Nd_carryOut_115 rfl (by first | exact am_rvR _ | exact am_rvN | assumption) ?_
    refine am_cV (b := A (50 + i)) d_Nd_carryOut_116 v_Nd_171 (vs := []) (st := []) rfl rfl (by decide) (Nat.le_of_ble_eq_true rfl) (cl_node hS hi) (nd_probes hn hS hi he IP IH IW) ?_
    rintro v S4 ⟨rfl, hq⟩
    refine am_goto (tgt := 122) d_Nd_carryOut_119 (by decide) ?_
    refine am_vret d_Nd_carryOut_122 rfl ?_
    rw [show fc_does room s.1 i [5, -1, -1, -1, 0] = fc_prbs s.1 i 4 from by unfold fc_does; rw [if_neg (by decide), if_neg (by decide), if_neg (by decide), if_neg (by decide), if_neg (by decide), if_pos (by decide)]]
    exact ⟨rfl, hq.wide (by omega) (by omega)⟩
theorem rl_old {a tb : Nat} {x0 x1 x2 m l u : Int32} (ha : S.1 a = some (tb, .inr (am_cRl, [.int x0, .int x1, .int x2, .int m, .int l, .int u]))) (now : Int32) (idle : Nat) : am_M g y_Rl_isOld "(II)Z" 0 0 [.ref a, .int now, .int (nI idle)] S (fun v S' => v = some (.int (am_b (fc_old idle now [x0, x1, x2, m, l, u]))) ∧ S' = S) := by
  have eo : fc_old idle now [x0, x1, x2, m, l, u] = (decide (nI idle ≤ now - l) || decide (4 * nI idle ≤ now - m)) := rfl
  rw [eo]
  refine am_Mof (L0 := [some (.ref a), some (.int now), some (.int (nI idle))]) pl_Rl_isOld (am_k1 rfl (am_k1 rfl (am_k1 rfl am_k0))) (Nat.le_of_ble_eq_true rfl) rfl ?_
  refine am_iload_n d_Rl_isOld_0 rfl ?_
  refine am_aload_n d_Rl_isOld_1 rfl (by first | exact am_rvR _ | exact am_rvN | assumption) ?_
  refine am_get d_Rl_isOld_2 f_Rl_24 (by first | assumption | exact am_up_at _ _ _ _) (by rfl) ?_
  first | refine am_isubN d_Rl_isOld_5 (by omega) ?_ | refine am_isub d_Rl_isOld_5 ?_
  refine am_iload_n d_Rl_isOld_6 rfl ?_
  first | refine am_icmp_geN (tgt := 22) d_Rl_isOld_7 (by decide) (by omega) (by omega) (fun q1 => ?_) (fun q1 => ?_) | refine am_icmp_ge (tgt := 22) d_Rl_isOld_7 (by decide) (fun q1 => ?_) (fun q1 => ?_)
  · refine am_iconst (v := nI 1) d_Rl_isOld_22 (by decide) ?_
    refine am_goto (tgt := 27) d_Rl_isOld_23 (by decide) ?_
    refine am_iret d_Rl_isOld_27 rfl (by first | rfl | exact am_b_nar _) ?_
    first | exact ⟨am_bt (by simp only [Bool.or_eq_true, decide_eq_true_eq]; exact Or.inl q1), rfl⟩ | exact ⟨am_bf (by simp only [Bool.or_eq_false_iff, decide_eq_false_iff_not]; exact ⟨q1, fun z => by rw [Int32.lt_iff_toInt_lt] at q2; rw [Int32.le_iff_toInt_le] at z; omega⟩), rfl⟩ | exact ⟨am_bt (by simp only [Bool.or_eq_true, decide_eq_true_eq]; exact Or.inr (Int32.not_lt.mp q2)), rfl⟩
  · refine am_iload_n d_Rl_isOld_10 rfl ?_
    refine am_aload_n d_Rl_isOld_11 rfl (by first | exact am_rvR _ | exact am_rvN | assumption) ?_
    refine am_get d_Rl_isOld_12 f_Rl_21 (by first | assumption | exact am_up_at _ _ _ _) (by rfl) ?_
    first | refine am_isubN d_Rl_isOld_15 (by omega) ?_ | refine am_isub d_Rl_isOld_15 ?_
    refine am_iconst (v := 4) d_Rl_isOld_16 (by decide) ?_
    refine am_iload_n d_Rl_isOld_17 rfl ?_
    refine am_imul d_Rl_isOld_18 ?_
    first | refine am_icmp_ltN (tgt := 26) d_Rl_isOld_19 (by decide) (by omega) (by omega) (fun q2 => ?_) (fun q2 => ?_) | refine am_icmp_lt (tgt := 26) d_Rl_isOld_19 (by decide) (fun q2 => ?_) (fun q2 => ?_)
    · refine am_iconst (v := nI 0) d_Rl_isOld_26 (by decide) ?_
      refine am_iret d_Rl_isOld_27 rfl (by first | rfl | exact am_b_nar _) ?_
      first | exact ⟨am_bt (by simp only [Bool.or_eq_true, decide_eq_true_eq]; exact Or.inl q1), rfl⟩ | exact ⟨am_bf (by simp only [Bool.or_eq_false_iff, decide_eq_false_iff_not]; exact ⟨q1, fun z => by rw [Int32.lt_iff_toInt_lt] at q2; rw [Int32.le_iff_toInt_le] at z; omega⟩), rfl⟩ | exact ⟨am_bt (by simp only [Bool.or_eq_true, decide_eq_true_eq]; exact Or.inr (Int32.not_lt.mp q2)), rfl⟩
    · refine am_iconst (v := nI 1) d_Rl_isOld_22 (by decide) ?_
      refine am_goto (tgt := 27) d_Rl_isOld_23 (by decide) ?_
      refine am_iret d_Rl_isOld_27 rfl (by first | rfl | exact am_b_nar _) ?_
      first | exact ⟨am_bt (by simp only [Bool.or_eq_true, decide_eq_true_eq]; exact Or.inl q1), rfl⟩ | exact ⟨am_bf (by simp only [Bool.or_eq_false_iff, decide_eq_false_iff_not]; exact ⟨q1, fun z => by rw [Int32.lt_iff_toInt_lt] at q2; rw [Int32.le_iff_toInt_le] at z; omega⟩), rfl⟩ | exact ⟨am_bt (by simp only [Bool.or_eq_true, decide_eq_true_eq]; exact Or.inr (Int32.not_lt.mp q2)), rfl⟩
theorem cl_removeF {c k a : Nat} (hn : ns ≤ 5) (hS : cl_P e nw ns room idle A s S) (hc : cl_isL ns c) (ha : (s.2.1 c)[k]? = some a) : am_M g y_AL_remove "(I)Ljava/lang/Object;" 2 43 [.ref (A c), .int (nI k)] S (fun v S' => v = some (.ref a) ∧ cl_P e nw ns room idle A (cl_up s c ((s.1 c).eraseIdx k) ((s.2.1 c).eraseIdx k) 0 0) S' ∧ am_fr cl_X S S' ∧ am_fr (am_lX (10 * c + 1)) S S') := by
  have h := cl_list hS hc
  have hX : ∀ t, am_lX (10 * c + 1) t → cl_X t := fun t z => by unfold am_lX at z; unfold cl_isL at hc; unfold cl_X; omega
  refine (al_remove hS.1.1 (by omega) h.1 ha (cl_alels hc hn h.2)).post (fun v S' ⟨h1, h2, h3, h4⟩ => ⟨h1, ?_, h3.mono hX, h3⟩)
  refine cl_updL hn hS hc h3 ⟨by rw [h4]; omega, by rw [h4]; omega⟩ ⟨by rw [cl_up_2]; exact h2, ?_⟩
  refine ⟨by rw [cl_up_1, cl_up_2, List.length_eraseIdx, List.length_eraseIdx, h.2.1], fun z => by rw [cl_up_2]; exact List.Nodup.sublist (List.eraseIdx_sublist _ _) (h.2.2.1 z), fun j b row hb hr => ?_⟩
  rw [cl_up_2, List.getElem?_eraseIdx] at hb
  rw [cl_up_1, List.getElem?_eraseIdx] at hr
  have key : ∀ i, (s.2.1 c)[i]? = some b → (s.1 c)[i]? = some row → cl_el c b row S' := fun i h5 h6 => (h.2.2.2 i b row h5 h6).fr h3 (fun z => by unfold am_lX at z; omega) (fun z => by unfold am_lX at z; omega)
  by_cases hj : j < k
  · rw [if_pos hj] at hb hr
    exact key j hb hr
  · rw [if_neg hj] at hb hr
    exact key (j + 1) hb hr
theorem am_flen (p : List Int32 → Bool) : ∀ l : List (List Int32), (l.filter p).length + (l.filter (fun x => !p x)).length = l.length
  | [] => rfl
  | x :: l => by
    have ih := am_flen p l
    cases h : p x <;> simp [h] <;> omega
/-- after j rules were looked at -/
def fc_dj (idle : Nat) (s : fc_S) (i j : Nat) : fc_S := fun q =>
  if q = 20 + i then ((s (20 + i)).take j).filter (fun r => !fc_old idle (fc_now s) r) ++ (s (20 + i)).drop j
  else if q = 40 + i then s q ++ (((s (20 + i)).take j).filter (fc_old idle (fc_now s))).map (fun r => [4, -1, r.getD 0 0, r.getD 1 0, 0])
  else s q
theorem fc_dj_0 (idle : Nat) (s : fc_S) (i : Nat) : fc_dj idle s i 0 = s := by
  funext q
  unfold fc_dj
  by_cases h : q = 20 + i
  · subst h; simp
  · by_cases h2 : q = 40 + i
    · subst h2; simp
    · simp [h, h2]
theorem fc_dj_n (idle : Nat) (s : fc_S) (i : Nat) : fc_dj idle s i (s (20 + i)).length = fc_drop idle s i := by
  funext q
  unfold fc_dj fc_drop
  by_cases h : q = 20 + i
  · subst h; simp
  · by_cases h2 : q = 40 + i
    · subst h2; simp
    · simp [h, h2]
theorem fc_dj_rules (idle : Nat) (s : fc_S) (i j : Nat) : fc_dj idle s i j (20 + i) = ((s (20 + i)).take j).filter (fun r => !fc_old idle (fc_now s) r) ++ (s (20 + i)).drop j := if_pos rfl
theorem fc_dj_reps (idle : Nat) (s : fc_S) (i j : Nat) : fc_dj idle s i j (40 + i) = s (40 + i) ++ (((s (20 + i)).take j).filter (fc_old idle (fc_now s))).map (fun r => [4, -1, r.getD 0 0, r.getD 1 0, 0]) := by
  unfold fc_dj
  rw [if_neg (by omega), if_pos rfl]
theorem fc_dj_ne {idle : Nat} {s : fc_S} {i j q : Nat} (h1 : q ≠ 20 + i) (h2 : q ≠ 40 + i) : fc_dj idle s i j q = s q := by
  unfold fc_dj
  rw [if_neg h1, if_neg h2]
/-- how many of the first j stay -/
def fc_kj (idle : Nat) (s : fc_S) (i j : Nat) : Nat := (((s (20 + i)).take j).filter (fun r => !fc_old idle (fc_now s) r)).length
theorem fc_dj_at {idle : Nat} {s : fc_S} {i j : Nat} {row : List Int32} (hr : (s (20 + i))[j]? = some row) : (fc_dj idle s i j (20 + i))[fc_kj idle s i j]? = some row := by
  rw [fc_dj_rules]
  unfold fc_kj
  rw [List.getElem?_append_right (Nat.le_refl _), Nat.sub_self, List.getElem?_drop, Nat.add_zero]
  exact hr
theorem fc_take_s {rows : List (List Int32)} {j : Nat} {row : List Int32} (hr : rows[j]? = some row) : rows.take (j + 1) = rows.take j ++ [row] := by
  rw [List.take_add_one, hr]
  rfl
theorem fc_drop_s {rows : List (List Int32)} {j : Nat} {row : List Int32} (hr : rows[j]? = some row) : rows.drop j = row :: rows.drop (j + 1) := by
  obtain ⟨h1, h2⟩ := List.getElem?_eq_some_iff.mp hr
  rw [List.drop_eq_getElem_cons h1, h2]
theorem fc_dj_keep {idle : Nat} {s : fc_S} {i j : Nat} {row : List Int32} (hr : (s (20 + i))[j]? = some row) (ho : fc_old idle (fc_now s) row = false) : fc_dj idle s i (j + 1) = fc_dj idle s i j ∧ fc_kj idle s i (j + 1) = fc_kj idle s i j + 1 := by
  constructor
  · funext q
    by_cases h1 : q = 20 + i
    · subst h1
      rw [fc_dj_rules, fc_dj_rules, fc_take_s hr, fc_drop_s hr]
      simp [ho]
    · by_cases h2 : q = 40 + i
      · subst h2
        rw [fc_dj_reps, fc_dj_reps, fc_take_s hr]
        simp [ho]
      · rw [fc_dj_ne h1 h2, fc_dj_ne h1 h2]
  · unfold fc_kj
    rw [fc_take_s hr]
    simp [ho]
theorem fc_dj_drop {idle : Nat} {s : fc_S} {i j : Nat} {row : List Int32} (hr : (s (20 + i))[j]? = some row) (ho : fc_old idle (fc_now s) row = true) : fc_dj idle s i (j + 1) = fc_add (fc_del (fc_dj idle s i j) (20 + i) (fc_kj idle s i j)) (40 + i) [4, -1, row.getD 0 0, row.getD 1 0, 0] ∧ fc_kj idle s i (j + 1) = fc_kj idle s i j := by
  constructor
  · funext q
    unfold fc_add fc_del
    by_cases h1 : q = 20 + i
    · subst h1
      rw [fc_up_ne _ (by omega), fc_up_same, fc_dj_rules, fc_dj_rules, fc_take_s hr, fc_drop_s hr, List.eraseIdx_append_of_length_le (by unfold fc_kj; exact Nat.le_refl _)]
      unfold fc_kj
      rw [Nat.sub_self]
      simp [ho]
    · by_cases h2 : q = 40 + i
      · subst h2
        rw [fc_up_same, fc_up_ne _ (by omega), fc_dj_reps, fc_dj_reps, fc_take_s hr]
        simp [ho]
      · rw [fc_dj_ne h1 h2, fc_up_ne _ h2, fc_up_ne _ h1, fc_dj_ne h1 h2]
  · unfold fc_kj
    rw [fc_take_s hr]
    simp [ho]
theorem fc_kj_le (idle : Nat) (s : fc_S) (i j : Nat) : fc_kj idle s i j ≤ j := by
  unfold fc_kj
  have := List.length_filter_le (fun r => !fc_old idle (fc_now s) r) ((s (20 + i)).take j)
  rw [List.length_take] at this
  omega
theorem fc_kj_n (idle : Nat) (s : fc_S) (i : Nat) : (s (20 + i)).length - fc_kj idle s i (s (20 + i)).length = ((s (20 + i)).filter (fc_old idle (fc_now s))).length := by
  unfold fc_kj
  rw [List.take_length]
  have h := am_flen (fc_old idle (fc_now s)) (s (20 + i))
  omega
theorem nd_drop (hn : ns ≤ 5) (hS : cl_P e nw ns room idle A s S) {i : Nat} (hi : i < ns) (he : am_gE g e) (I : fc_iD ns room s.1) (hlen : (s.1 (40 + i)).length + (s.1 (20 + i)).length < 60) : am_M g y_Nd_dropOldRules "(II)I" 7 152 [.ref (A (50 + i)), .int (fc_now s.1), .int (nI idle)] S (fun v S' => v = some (.int (nI ((s.1 (20 + i)).filter (fc_old idle (fc_now s.1))).length)) ∧ cl_Q e nw ns room idle A s S (fc_drop idle s.1 i) 16 800 S') := by
  obtain ⟨⟨-, -, -, hroom⟩, IH, IP, IW, IG, IR, IL, -⟩ := I
  have hL : cl_isL ns (20 + i) := by unfold cl_isL; omega
  have hL4 : cl_isL ns (40 + i) := by unfold cl_isL; omega
  have h8 := (IR i hi).1
  have key : ∀ (m j : Nat) (s1 : cl_S) (S1 : am_S) (o6 : Option Value), j + m = (s.1 (20 + i)).length → s1.1 = fc_dj idle s.1 i j → s1.2.2.1 ≤ s.2.2.1 + 2 * j → s1.2.2.2 ≤ s.2.2.2 + 95 * j → cl_P e nw ns room idle A s1 S1 → am_fr cl_X S S1 → am_W g y_Nd_dropOldRules 7 152 (fun v S' => v = some (.int (nI ((s.1 (20 + i)).filter (fc_old idle (fc_now s.1))).length)) ∧ cl_Q e nw ns room idle A s S (fc_drop idle s.1 i) 16 800 S') 14 [some (.ref (A (50 + i))), some (.int (fc_now s.1)), some (.int (nI idle)), some (.int (nI (s.1 (20 + i)).length)), some (.int (nI (fc_kj idle s.1 i j))), some (.int (nI j)), o6] [] S1 := by
    intro m
    induction m with
    | zero =>
      intro j s1 S1 o6 hj e1 b1 b2 hS1 hf1
      have ej : j = (s.1 (20 + i)).length := by omega
      have hkl := fc_kj_le idle s.1 i j
      refine am_iload d_Nd_dropOldRules_14 rfl ?_
      refine am_iload_n d_Nd_dropOldRules_16 rfl ?_
      refine am_icmp_geN (tgt := 89) d_Nd_dropOldRules_17 (by decide) (by omega) (by omega) (fun _ => ?_) (fun q => absurd q (by omega))
      refine am_iload_n d_Nd_dropOldRules_89 rfl ?_
      refine am_iload d_Nd_dropOldRules_90 rfl ?_
      first | refine am_isubN d_Nd_dropOldRules_92 (by omega) ?_ | refine am_isub d_Nd_dropOldRules_92 ?_
      refine am_iret d_Nd_dropOldRules_93 rfl rfl ?_
      refine ⟨by rw [ej, fc_kj_n], s1, by rw [e1, ej, fc_dj_n], ⟨by omega, by omega⟩, hS1, hf1⟩
    | succ m ih =>
      intro j s1 S1 o6 hj e1 b1 b2 hS1 hf1
      have hr0 := List.getElem?_eq_getElem (l := s.1 (20 + i)) (i := j) (by omega)
      obtain ⟨f', t', pp, mm, ll, uu, hf6, ht6, hp4, hrow⟩ := (IR i hi).2 _ (List.mem_of_getElem? hr0)
      rw [hrow] at hr0
      have hat := fc_dj_at (idle := idle) hr0
      rw [← e1] at hat
      obtain ⟨a, row, ha, hr, hel⟩ := cl_at (cl_list hS1 hL).2 (k := fc_kj idle s.1 i j) (List.getElem?_eq_some_iff.mp hat).1
      cases hat.symm.trans hr
      obtain ⟨ho, -⟩ := (cl_eldir hn (c := 20 + i) (by unfold cl_dir; omega)).mp hel
      rw [show cl_cls (20 + i) = am_cRl from by unfold cl_cls; rw [if_neg (by omega), if_neg (by omega)]] at ho
      have hkl := fc_kj_le idle s.1 i j
      have hlr : (s1.1 (40 + i)).length < 60 := by
        rw [e1, fc_dj_reps, List.length_append, List.length_map]
        have h1 := List.length_filter_le (fc_old idle (fc_now s.1)) ((s.1 (20 + i)).take j)
        rw [List.length_take] at h1
        omega
      refine am_iload d_Nd_dropOldRules_14 rfl ?_
      refine am_iload_n d_Nd_dropOldRules_16 rfl ?_
      refine am_icmp_geN (tgt := 89) d_Nd_dropOldRules_17 (by decide) (by omega) (by omega) (fun q => absurd q (by omega)) (fun _ => ?_)
      refine am_aload_n d_Nd_dropOldRules_20 rfl (by first | exact am_rvR _ | exact am_rvN | assumption) ?_
      refine am_get d_Nd_dropOldRules_21 f_Nd_32 (cl_node hS1 hi) (by rfl) ?_
      refine am_iload d_Nd_dropOldRules_24 rfl ?_
      refine am_cV (b := A (20 + i)) d_Nd_dropOldRules_26 v_Nd_111 (vs := [.int (nI (fc_kj idle s.1 i j))]) (st := []) rfl rfl (by decide) (Nat.le_of_ble_eq_true rfl) (cl_list hS1 hL).1.choose_spec.choose_spec.choose_spec.choose_spec.1 (cl_getM hS1 hL ha) ?_
      rintro v S2 ⟨rfl, rfl⟩
      refine am_cast d_Nd_dropOldRules_29 k_Nd_134 (q := am_qRl) rfl (Or.inl rfl) ho ?_
      refine am_astore (L1 := [_, _, _, _, _, _, _]) d_Nd_dropOldRules_32 (by decide) (by first | exact am_rvR _ | exact am_rvN | assumption) rfl ?_
      refine am_aload d_Nd_dropOldRules_34 rfl (by first | exact am_rvR _ | exact am_rvN | assumption) ?_
      refine am_iload_n d_Nd_dropOldRules_36 rfl ?_
      refine am_iload_n d_Nd_dropOldRules_37 rfl ?_
      refine am_cV (b := a) d_Nd_dropOldRules_38 v_Nd_193 (vs := [.int (fc_now s.1), .int (nI idle)]) (st := []) rfl rfl (by decide) (Nat.le_of_ble_eq_true rfl) ho (rl_old ho (fc_now s.1) idle) ?_
      rintro v S2 ⟨rfl, rfl⟩
      first | refine am_if_eqB (tgt := 80) d_Nd_dropOldRules_41 (by decide) (fun q1 => ?_) (fun q1 => ?_) | refine am_if_eqN (tgt := 80) d_Nd_dropOldRules_41 (by decide) (by omega) (fun q1 => ?_) (fun q1 => ?_) | refine am_if_eq (tgt := 80) d_Nd_dropOldRules_41 (by decide) (fun q1 => ?_) (fun q1 => ?_)
      · first | refine am_iincN (b := 1) (L1 := [_, _, _, _, _, _, _]) d_Nd_dropOldRules_80 rfl (by decide) (by decide) rfl ?_ | refine am_iinc (L1 := [_, _, _, _, _, _, _]) d_Nd_dropOldRules_80 rfl rfl (by decide) rfl ?_
        first | refine am_iincN (b := 1) (L1 := [_, _, _, _, _, _, _]) d_Nd_dropOldRules_83 rfl (by decide) (by decide) rfl ?_ | refine am_iinc (L1 := [_, _, _, _, _, _, _]) d_Nd_dropOldRules_83 rfl rfl (by decide) rfl ?_
        refine am_goto (tgt := 14) d_Nd_dropOldRules_86 (by decide) ?_
        first
          | (have hk2 := fc_dj_keep (idle := idle) hr0 (by assumption)
             have hz := ih (j + 1) s1 S2 (some (.ref a)) (by omega) (by rw [hk2.1]; exact e1) (by omega) (by omega) hS1 hf1
             rw [hk2.2] at hz
             exact hz)
          | (have hk2 := fc_dj_drop (idle := idle) hr0 (by assumption)
             have hz := ih (j + 1) _ S5 (some (.ref a)) (by omega) (by rw [hk2.1, ← e1]; rfl) (by show s1.2.2.1 + 0 + 1 + 1 ≤ _; omega) (by show s1.2.2.2 + 0 + 5 + 90 ≤ _; omega) hS5 (((hf1.trans hf3).trans hf4).trans hf5)
             rw [hk2.2] at hz
             exact hz)
      · refine am_aload_n d_Nd_dropOldRules_44 rfl (by first | exact am_rvR _ | exact am_rvN | assumption) ?_
        refine am_get d_Nd_dropOldRules_45 f_Nd_32 (cl_node hS1 hi) (by rfl) ?_
        refine am_iload d_Nd_dropOldRules_48 rfl ?_
        refine am_cV (b := A (20 + i)) d_Nd_dropOldRules_50 v_Nd_181 (vs := [.int (nI (fc_kj idle s.1 i j))]) (st := []) rfl rfl (by decide) (Nat.le_of_ble_eq_true rfl) (cl_list hS1 hL).1.choose_spec.choose_spec.choose_spec.choose_spec.1 (cl_removeF hn hS1 hL ha) ?_
        rintro v S3 ⟨rfl, hS3, hf3, hf3b⟩
        have hold := hf3b.keep ho (fun z => by unfold am_lX at z; omega)
        refine am_pop d_Nd_dropOldRules_53 rfl ?_
        refine am_aload_n d_Nd_dropOldRules_54 rfl (by first | exact am_rvR _ | exact am_rvN | assumption) ?_
        refine am_get d_Nd_dropOldRules_55 f_Nd_38 (cl_node hS3 hi) (by rfl) ?_
        refine am_iconst (v := 4) d_Nd_dropOldRules_58 (by decide) ?_
        refine am_iconst (v := (-1)) d_Nd_dropOldRules_59 (by decide) ?_
        refine am_aload d_Nd_dropOldRules_60 rfl (by first | exact am_rvR _ | exact am_rvN | assumption) ?_
        refine am_get d_Nd_dropOldRules_62 f_Nd_145 hold (by rfl) ?_
        refine am_aload d_Nd_dropOldRules_65 rfl (by first | exact am_rvR _ | exact am_rvN | assumption) ?_
        refine am_get d_Nd_dropOldRules_67 f_Nd_146 hold (by rfl) ?_
        refine am_cS d_Nd_dropOldRules_70 s_Nd_174 (vs := [.int 4, .int (-1), (.int (nI f')), (.int (nI t'))]) (st := [.ref (A (40 + i))]) rfl rfl (by decide) (Nat.le_of_ble_eq_true rfl) (mk_ofPair 4 (-1) (nI f') (nI t')) ?_
        rintro v S4 ⟨rfl, rfl⟩
        obtain ⟨hS4, hf4, hmm⟩ := cl_newM hS3 (c := 40 + i) (by omega) (by omega) 4 (-1) (nI f') (nI t') 0
        refine am_cV (b := A (40 + i)) d_Nd_dropOldRules_73 v_Nd_61 (vs := [.ref _]) (st := []) rfl rfl (by decide) (Nat.le_of_ble_eq_true rfl) (cl_list hS4 hL4).1.choose_spec.choose_spec.choose_spec.choose_spec.1 (cl_addM (row := [4, -1, nI f', nI t', 0]) hn he hS4 hL4 (show ((fc_up s1.1 (20 + i) _) (40 + i)).length < 60 by rw [fc_up_ne _ (by omega)]; exact hlr) hmm (fun z => by omega)) ?_
        rintro v S5 ⟨rfl, hS5, hf5⟩
        refine am_pop d_Nd_dropOldRules_76 rfl ?_
        refine am_goto (tgt := 83) d_Nd_dropOldRules_77 (by decide) ?_
        first | refine am_iincN (b := 1) (L1 := [_, _, _, _, _, _, _]) d_Nd_dropOldRules_83 rfl (by decide) (by decide) rfl ?_ | refine am_iinc (L1 := [_, _, _, _, _, _, _]) d_Nd_dropOldRules_83 rfl rfl (by decide) rfl ?_
        refine am_goto (tgt := 14) d_Nd_dropOldRules_86 (by decide) ?_
        first
          | (have hk2 := fc_dj_keep (idle := idle) hr0 (by assumption)
             have hz := ih (j + 1) s1 S2 (some (.ref a)) (by omega) (by rw [hk2.1]; exact e1) (by omega) (by omega) hS1 hf1
             rw [hk2.2] at hz
             exact hz)
          | (have hk2 := fc_dj_drop (idle := idle) hr0 (by assumption)
             have hz := ih (j + 1) _ S5 (some (.ref a)) (by omega) (by rw [hk2.1, ← e1]; rfl) (by show s1.2.2.1 + 0 + 1 + 1 ≤ _; omega) (by show s1.2.2.2 + 0 + 5 + 90 ≤ _; omega) hS5 (((hf1.trans hf3).trans hf4).trans hf5)
             rw [hk2.2] at hz
             exact hz)
  refine am_Mof (L0 := [some (.ref (A (50 + i))), some (.int (fc_now s.1)), some (.int (nI idle)), none, none, none, none]) pl_Nd_dropOldRules (am_k1 rfl (am_k1 rfl (am_k1 rfl am_k0))) (Nat.le_of_ble_eq_true rfl) rfl ?_
  refine am_aload_n d_Nd_dropOldRules_0 rfl (by first | exact am_rvR _ | exact am_rvN | assumption) ?_
  refine am_get d_Nd_dropOldRules_1 f_Nd_32 (cl_node hS hi) (by rfl) ?_
  refine am_cV (b := A (20 + i)) d_Nd_dropOldRules_4 v_Nd_41 (vs := []) (st := []) rfl rfl (by decide) (Nat.le_of_ble_eq_true rfl) (cl_list hS hL).1.choose_spec.choose_spec.choose_spec.choose_spec.1 (cl_size hS hL) ?_
  rintro v S2 ⟨rfl, rfl⟩
  refine am_istore_n (L1 := [_, _, _, _, _, _, _]) d_Nd_dropOldRules_7 (by decide) rfl ?_
  refine am_iconst (v := nI 0) d_Nd_dropOldRules_8 (by decide) ?_
  refine am_istore (L1 := [_, _, _, _, _, _, _]) d_Nd_dropOldRules_9 (by decide) rfl ?_
  refine am_iconst (v := nI 0) d_Nd_dropOldRules_11 (by decide) ?_
  refine am_istore (L1 := [_, _, _, _, _, _, _]) d_Nd_dropOldRules_12 (by decide) rfl ?_
  exact key _ 0 s _ _ (Nat.zero_add _) (by rw [fc_dj_0]) (by omega) (by omega) hS (am_fr.refl _ _)
end CNJ
