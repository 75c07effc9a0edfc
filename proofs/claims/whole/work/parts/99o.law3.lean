/-! the law: its loop, its start -/
section LWC
variable {g : am_G} {e nw ns room idle b L n0 m0 : Nat} {xs : Nat → Int32} {Ac Am : Nat → Nat} {S : am_S}
theorem fr_rel.zero {ns room idle : Nat} (n5 : ns ≤ 5) : fr_rel ns room idle (fc_0 ns) (fm_r (nI ns) (nI room) (nI idle)) := by
  have nil : ∀ c, c ≠ 0 → c ≠ 2 → c ≠ 3 → c ≠ 4 → c ≠ 5 → ¬ (100 ≤ c ∧ c < 200) → fc_0 ns c = [] := fun c a0 a2 a3 a4 a5 a => fc_0_nil a0 a2 a3 a4 a5 a
  have n0 : (0 : Int32) = nI 0 := rfl
  have P : ∀ e, e < 4 * ns → fc_0 ns (100 + e) = [[-1, -1, 0]] := fun e he => by
    unfold fc_0
    rw [if_neg (show ¬ 100 + e = 0 by omega), if_neg (show ¬ 100 + e = 2 by omega), if_neg (show ¬ 100 + e = 3 by omega), if_neg (show ¬ 100 + e = 4 by omega), if_neg (show ¬ 100 + e = 5 by omega), if_pos (show 100 ≤ 100 + e ∧ 100 + e < 200 by omega)]
  refine ⟨⟨rfl, rfl, rfl, rfl⟩, ⟨rfl, fun h row (z : (fc_0 ns 1)[h]? = some row) => absurd z (by rw [nil 1 (by omega) (by omega) (by omega) (by omega) (by omega) (by omega)]; intro z; cases z), fun h _ _ => ⟨rfl, rfl⟩⟩, fun e he => ?_, fun e he => ?_, fun i hi => ?_, fun i hi => ?_, fun l hl => ?_, ⟨fun e he => ?_, fun h hh => ?_⟩, rfl, ?_, fun c row z => ?_⟩
  · unfold fc_get
    rw [P e he]
    exact ⟨rfl, fun _ _ => rfl, fun z => absurd rfl z, fun _ z => absurd rfl z⟩
  · rw [nil _ (by omega) (by omega) (by omega) (by omega) (by omega) (by omega)]
    exact ⟨rfl, fun k row z => by cases z⟩
  · rw [nil _ (by omega) (by omega) (by omega) (by omega) (by omega) (by omega)]
    exact ⟨rfl, fun k row z => by cases z⟩
  · rw [nil _ (by omega) (by omega) (by omega) (by omega) (by omega) (by omega)]
    exact ⟨rfl, fun k row z => by cases z⟩
  · have hc : 30 ≤ fr_lc l ∧ fr_lc l < 45 := by unfold fr_lc; split <;> omega
    rw [nil _ (by omega) (by omega) (by omega) (by omega) (by omega) (by omega)]
    exact ⟨rfl, fun k row z => by cases z⟩
  · have g3 : fc_get (fc_0 ns) 3 0 e = -1 := by
      show (List.replicate (4 * ns) (-1 : Int32)).getD e 0 = -1
      rw [List.getD_eq_getElem?_getD, List.getElem?_replicate, if_pos he]
      rfl
    have g4 : fc_get (fc_0 ns) 4 0 e = 0 := by
      show (List.replicate (4 * ns) (0 : Int32)).getD e 0 = 0
      rw [List.getD_eq_getElem?_getD, List.getElem?_replicate, if_pos he]
      rfl
    rw [g3, g4]
    exact ⟨show (0 : Int32) = -1 + nI 1 by decide, rfl⟩
  · have g5 : fc_get (fc_0 ns) 5 0 h = -1 := by
      show (List.replicate 6 (-1 : Int32)).getD h 0 = -1
      rw [List.getD_eq_getElem?_getD, List.getElem?_replicate, if_pos hh]
      rfl
    rw [g5]
    show (0 : Int32) = -1 + nI 1
    decide
  · rw [nil 7 (by omega) (by omega) (by omega) (by omega) (by omega) (by omega)]
    rfl
  · rw [nil 7 (by omega) (by omega) (by omega) (by omega) (by omega) (by omega)] at z
    cases z
theorem am_clamp (x : Int32) {lo hi : Nat} (h : lo ≤ hi) (hh : hi < 1000) : ∃ n, lo ≤ n ∧ n ≤ hi ∧ (if x < nI lo then nI lo else if nI hi < x then nI hi else x) = nI n ∧ (if nI lo < (if x < nI hi then x else nI hi) then (if x < nI hi then x else nI hi) else nI lo) = nI n := by
  have tl : (nI lo).toInt = lo := nI_toInt (by omega)
  have th : (nI hi).toInt = hi := nI_toInt (by omega)
  by_cases h1 : x < nI lo
  · refine ⟨lo, Nat.le_refl _, h, if_pos h1, ?_⟩
    have h1' := h1
    rw [Int32.lt_iff_toInt_lt] at h1'
    by_cases h2 : x < nI hi
    · rw [if_pos h2, if_neg (by rw [Int32.lt_iff_toInt_lt]; omega)]
    · rw [Int32.lt_iff_toInt_lt] at h2; omega
  · rw [if_neg h1]
    rw [Int32.lt_iff_toInt_lt] at h1
    by_cases h2 : nI hi < x
    · refine ⟨hi, h, Nat.le_refl _, if_pos h2, ?_⟩
      rw [Int32.lt_iff_toInt_lt] at h2
      rw [if_neg (show ¬ x < nI hi by rw [Int32.lt_iff_toInt_lt]; omega)]
      by_cases h3 : nI lo < nI hi
      · rw [if_pos h3]
      · rw [if_neg h3]
        rw [Int32.lt_iff_toInt_lt] at h3
        congr 1
        omega
    · rw [if_neg h2]
      rw [Int32.lt_iff_toInt_lt] at h2
      obtain ⟨n, hn31, rfl⟩ := nI_of (x := x) (by rw [Int32.lt_iff_toInt_lt]; (have : (0 : Int32).toInt = 0 := by decide); omega)
      have tn : (nI n).toInt = n := nI_toInt hn31
      refine ⟨n, by omega, by omega, rfl, ?_⟩
      by_cases h4 : nI n < nI hi
      · rw [if_pos h4]
        by_cases h5 : nI lo < nI n
        · rw [if_pos h5]
        · rw [if_neg h5]
          rw [Int32.lt_iff_toInt_lt] at h5
          congr 1
          omega
      · rw [if_neg h4]
        rw [Int32.lt_iff_toInt_lt] at h4
        have e : hi = n := by omega
        subst e
        by_cases h5 : nI lo < nI hi
        · rw [if_pos h5]
        · rw [if_neg h5]
          rw [Int32.lt_iff_toInt_lt] at h5
          congr 1
          omega
theorem am_and31 (x : Int32) : ∃ j, j < 32 ∧ x &&& nI 31 = nI j := by
  refine ⟨(x &&& nI 31).toBitVec.toNat, ?_, ?_⟩
  · have h : (x &&& nI 31).toBitVec = x.toBitVec &&& (nI 31).toBitVec := rfl
    rw [h, BitVec.toNat_and]
    have h31 : (nI 31).toBitVec.toNat = 31 := by decide
    rw [h31]
    exact Nat.lt_of_le_of_lt Nat.and_le_right (by decide)
  · have h : ∀ y : Int32, y = nI y.toBitVec.toNat := fun y => by
      unfold nI
      apply Int32.toBitVec_inj.mp
      show y.toBitVec = BitVec.ofNat 32 y.toBitVec.toNat
      rw [BitVec.ofNat_toNat]
      simp
    exact h _
theorem lw_I.next {k : Nat} (h : lw_I e nw ns room idle b L xs Ac Am n0 m0 k S) : lw_I e nw ns room idle b L xs Ac Am n0 m0 (k + 1) S := by
  obtain ⟨c, r, own, W, hC, hM, hb, J, U, H, hW6, hn, hm⟩ := h
  exact ⟨c, r, own, W, hC, hM, hb, J, U, H, by omega, by omega, by omega⟩
theorem lw_ge {k : Nat} (hL : L ≤ 2563) (hk : k ≤ 512) : nI L - nI 5 < nI (3 + 5 * k) ↔ L < 3 + 5 * k + 5 := by
  rw [Int32.lt_iff_toInt_lt, pk_sub_toInt (by omega) (by omega), nI_toInt (by omega)]
  omega
theorem lw_step (he : am_gE g e) (hW : am_gW g nw) (hL : L ≤ 2563) {k : Nat} {post : Option Value → am_S → Prop} (hk : 3 + 5 * k + 5 ≤ L) (I : lw_I e nw ns room idle b L xs Ac Am n0 m0 k S) (K : ∀ S', lw_I e nw ns room idle b L xs Ac Am n0 m0 (k + 1) S' → am_W g y_Lw_law 14 546 post 778 [some (.ref b), some (.ref (Ac 0)), some (.ref (Am 44)), some (.int (nI (3 + 5 * k)))] [] S') : am_W g y_Lw_law 14 546 post 56 [some (.ref b), some (.ref (Ac 0)), some (.ref (Am 44)), some (.int (nI (3 + 5 * k)))] [] S := by
  have hb : S.1 b = some (0, .inl (am_kI, fr_ls L xs)) := by
    obtain ⟨c, r, own, W, hC, hM, hb, -⟩ := I
    exact hb
  refine am_aload_n d_Lw_law_56 rfl (by first | exact am_rvR _ | exact am_rvN | assumption) ?_
  refine am_iload_n d_Lw_law_57 rfl ?_
  refine am_iald d_Lw_law_58 am_kI_ok hb rfl (fr_ls_get xs (show 3 + 5 * k < L by omega)) (by rw [fr_ls_len]; omega) ?_
  refine am_bipush (v := nI 31) d_Lw_law_59 (by decide) ?_
  refine am_iand d_Lw_law_61 ?_
  obtain ⟨j, hj, ej⟩ := am_and31 (xs (3 + 5 * k))
  rw [ej]
  by_cases j0 : j = 0
  · subst j0
    refine am_tableIn (off := 86) (tgt := 148) d_Lw_law_62 (by decide) (by decide) (by decide) (by decide) ?_
    exact lw_attach he hW hL hk I K
  by_cases j1 : j = 1
  · subst j1
    refine am_tableIn (off := 119) (tgt := 181) d_Lw_law_62 (by decide) (by decide) (by decide) (by decide) ?_
    exact lw_link he hW hL hk I K
  by_cases j2 : j = 2
  · subst j2
    refine am_tableIn (off := 172) (tgt := 234) d_Lw_law_62 (by decide) (by decide) (by decide) (by decide) ?_
    exact lw_turn he hW hL hk I K
  by_cases j3 : j = 3
  · subst j3
    refine am_tableIn (off := 231) (tgt := 293) d_Lw_law_62 (by decide) (by decide) (by decide) (by decide) ?_
    exact lw_guard he hW hL hk I K
  by_cases j4 : j = 4
  · subst j4
    refine am_tableIn (off := 284) (tgt := 346) d_Lw_law_62 (by decide) (by decide) (by decide) (by decide) ?_
    exact lw_unguard he hW hL hk I K
  by_cases j5 : j = 5
  · subst j5
    refine am_tableIn (off := 317) (tgt := 379) d_Lw_law_62 (by decide) (by decide) (by decide) (by decide) ?_
    exact lw_send he hW hL hk I K
  by_cases j6 : j = 6
  · subst j6
    refine am_tableIn (off := 360) (tgt := 422) d_Lw_law_62 (by decide) (by decide) (by decide) (by decide) ?_
    exact lw_carry he hW hL hk I K
  by_cases j7 : j = 7
  · subst j7
    refine am_tableIn (off := 393) (tgt := 455) d_Lw_law_62 (by decide) (by decide) (by decide) (by decide) ?_
    exact lw_obey he hW hL hk I K
  by_cases j8 : j = 8
  · subst j8
    refine am_tableIn (off := 416) (tgt := 478) d_Lw_law_62 (by decide) (by decide) (by decide) (by decide) ?_
    exact lw_report he hW hL hk I K
  by_cases j9 : j = 9
  · subst j9
    refine am_tableIn (off := 439) (tgt := 501) d_Lw_law_62 (by decide) (by decide) (by decide) (by decide) ?_
    exact lw_probe he hW hL hk I K
  by_cases j10 : j = 10
  · subst j10
    refine am_tableIn (off := 452) (tgt := 514) d_Lw_law_62 (by decide) (by decide) (by decide) (by decide) ?_
    exact lw_tick he hW hL hk I K
  by_cases j11 : j = 11
  · subst j11
    refine am_tableIn (off := 465) (tgt := 527) d_Lw_law_62 (by decide) (by decide) (by decide) (by decide) ?_
    exact lw_waiting he hW hL hk I K
  by_cases j12 : j = 12
  · subst j12
    refine am_tableIn (off := 498) (tgt := 560) d_Lw_law_62 (by decide) (by decide) (by decide) (by decide) ?_
    exact lw_rule he hW hL hk I K
  by_cases j13 : j = 13
  · subst j13
    refine am_tableIn (off := 551) (tgt := 613) d_Lw_law_62 (by decide) (by decide) (by decide) (by decide) ?_
    exact lw_hits he hW hL hk I K
  by_cases j14 : j = 14
  · subst j14
    refine am_tableIn (off := 584) (tgt := 646) d_Lw_law_62 (by decide) (by decide) (by decide) (by decide) ?_
    exact lw_taken he hW hL hk I K
  by_cases j15 : j = 15
  · subst j15
    refine am_tableIn (off := 617) (tgt := 679) d_Lw_law_62 (by decide) (by decide) (by decide) (by decide) ?_
    exact lw_known he hW hL hk I K
  by_cases j16 : j = 16
  · subst j16
    refine am_tableIn (off := 650) (tgt := 712) d_Lw_law_62 (by decide) (by decide) (by decide) (by decide) ?_
    exact lw_place he hW hL hk I K
  by_cases j17 : j = 17
  · subst j17
    refine am_tableIn (off := 673) (tgt := 735) d_Lw_law_62 (by decide) (by decide) (by decide) (by decide) ?_
    exact lw_course he hW hL hk I K
  refine am_tableOut (tgt := 778) d_Lw_law_62 (Or.inr ?_) (by decide) (K S I.next)
  rw [nI_toInt (by omega)]
  omega
theorem lw_loop (he : am_gE g e) (hW : am_gW g nw) (hL : L ≤ 2563) : ∀ (q k : Nat) (S : am_S), k ≤ 512 → L < 3 + 5 * k + 5 + 5 * q → lw_I e nw ns room idle b L xs Ac Am n0 m0 k S → am_W g y_Lw_law 14 546 (fun v S' => v = some (.int 1) ∧ S'.2.1 ≤ n0 + 80 * 512 ∧ S'.2.2 ≤ m0 + 5460 * 512) 48 [some (.ref b), some (.ref (Ac 0)), some (.ref (Am 44)), some (.int (nI (3 + 5 * k)))] [] S := by
  intro q
  induction q with
  | zero =>
    intro k S hk hq I
    have hb : S.1 b = some (0, .inl (am_kI, fr_ls L xs)) ∧ S.2.1 ≤ n0 + 80 * 512 ∧ S.2.2 ≤ m0 + 5460 * 512 := by
      obtain ⟨c, r, own, W, hC, hM, hb, J, U, H, hW6, hn, hm⟩ := I
      exact ⟨hb, by have := hC.1.2.1; omega, by have := hC.1.2.2; omega⟩
    refine am_iload_n d_Lw_law_48 rfl ?_
    refine am_aload_n d_Lw_law_49 rfl (by first | exact am_rvR _ | exact am_rvN | assumption) ?_
    refine am_alen (v := nI L) d_Lw_law_50 am_kI_ok hb.1 (by rw [fr_ls_len]; rfl) ?_
    refine am_iconst (v := nI 5) d_Lw_law_51 (by decide) ?_
    refine am_isub d_Lw_law_52 ?_
    refine am_icmp_gt (tgt := 784) d_Lw_law_53 (by decide) (fun _ => ?_) (fun z => absurd ((lw_ge hL hk).mpr hq) z)
    refine am_iconst (v := 1) d_Lw_law_784 (by decide) ?_
    exact am_iret d_Lw_law_785 rfl rfl ⟨rfl, hb.2⟩
  | succ q ih =>
    intro k S hk hq I
    have hb : S.1 b = some (0, .inl (am_kI, fr_ls L xs)) ∧ S.2.1 ≤ n0 + 80 * 512 ∧ S.2.2 ≤ m0 + 5460 * 512 := by
      obtain ⟨c, r, own, W, hC, hM, hb, J, U, H, hW6, hn, hm⟩ := I
      exact ⟨hb, by have := hC.1.2.1; omega, by have := hC.1.2.2; omega⟩
    refine am_iload_n d_Lw_law_48 rfl ?_
    refine am_aload_n d_Lw_law_49 rfl (by first | exact am_rvR _ | exact am_rvN | assumption) ?_
    refine am_alen (v := nI L) d_Lw_law_50 am_kI_ok hb.1 (by rw [fr_ls_len]; rfl) ?_
    refine am_iconst (v := nI 5) d_Lw_law_51 (by decide) ?_
    refine am_isub d_Lw_law_52 ?_
    refine am_icmp_gt (tgt := 784) d_Lw_law_53 (by decide) (fun _ => ?_) (fun z => ?_)
    · refine am_iconst (v := 1) d_Lw_law_784 (by decide) ?_
      exact am_iret d_Lw_law_785 rfl rfl ⟨rfl, hb.2⟩
    · have hl : 3 + 5 * k + 5 ≤ L := Nat.not_lt.mp (fun y => z ((lw_ge hL hk).mpr y))
      refine lw_step he hW hL hl I (fun S' I' => ?_)
      refine am_iincN (b := 5) (L1 := [_, _, _, _]) d_Lw_law_778 rfl (by decide) (by decide) rfl ?_
      refine am_goto (tgt := 48) d_Lw_law_781 (by decide) ?_
      exact ih (k + 1) S' (by omega) (by omega) I'
theorem fm_U_self (A : Nat → Nat) : fm_U A (A 45) (A 46) = A := by
  funext f
  unfold fm_U
  by_cases h : f = 45
  · rw [if_pos h, h]
  · rw [if_neg h]
    by_cases h' : f = 46
    · rw [if_pos h', h']
    · rw [if_neg h']
theorem cl_P.keptM {e nw ns room idle k n : Nat} {A : Nat → Nat} {c : cl_S} {S S' : am_S} (hn : ns ≤ 5) (h : cl_P e nw ns room idle A c S) (hf : am_fr fr_X S S') (hc : am_co k n S S') : cl_P e nw ns room idle A (cl_bg c k n) S' := by
  obtain ⟨⟨o, b1, b2⟩, hF, hC⟩ := h
  refine ⟨⟨hf.2.2.2 o, ?_, ?_⟩, hF.fr hf (fun z => absurd z (by unfold fr_X; omega)), fun q => ?_⟩
  · show S'.2.1 ≤ c.2.2.1 + k
    have := hc.1
    omega
  · show S'.2.2 ≤ c.2.2.2 + n
    have := hc.2
    omega
  by_cases hq : q < 900
  · exact (hC q).fr rfl rfl (fun _ _ _ => rfl) hf (fun z => absurd z (by unfold fr_X; omega)) (fun j h1 h2 z => by unfold fr_X at z; omega)
  · refine ⟨fun z => by omega, fun z => by omega, fun z => by omega, fun z => by omega, fun z => by omega, fun z => by omega, fun z => by omega, fun z hz hz2 => by omega, fun z => ?_⟩
    unfold cl_isL at z
    omega
theorem lw_begin (he : am_gE g e) (hW : am_gW g nw) (hL : L ≤ 2563) (o : am_ok S) (hE : S.1 e = some (0, .inl (am_kO, []))) (hN : S.1 nw = some (0, .inl (am_kI, []))) (hb : S.1 b = some (0, .inl (am_kI, fr_ls L xs))) : am_W g y_Lw_law 14 546 (fun v S' => v = some (.int 1) ∧ S'.2.1 ≤ S.2.1 + 600000 ∧ S'.2.2 ≤ S.2.2 + 7302250) 0 [some (.ref b), none, none, none] [] S := by
  obtain ⟨ns, n1, n5, ex, ex'⟩ := am_clamp (if 0 < L then xs 0 else 0) (show 2 ≤ 5 by decide) (by decide)
  obtain ⟨room, r1, r8, ez, ez'⟩ := am_clamp (if 1 < L then xs 1 else 0) (show 1 ≤ 8 by decide) (by decide)
  obtain ⟨idle, i1, i9, eu, eu'⟩ := am_clamp (if 2 < L then xs 2 else 0) (show 1 ≤ 9 by decide) (by decide)
  refine am_nw 1 d_Lw_law_0 n_Lw_7 df_FF ?_
  have o1 := o.mk 1 6 (.inr (am_cFF, [.int 0, .null, .null, .null, .int 0, .int 0]))
  have hE1 := am_mk_old (t := 1) (n := 6) (x := .inr (am_cFF, [.int 0, .null, .null, .null, .int 0, .int 0])) hE o
  have hN1 := am_mk_old (t := 1) (n := 6) (x := .inr (am_cFF, [.int 0, .null, .null, .null, .int 0, .int 0])) hN o
  have hb1 := am_mk_old (t := 1) (n := 6) (x := .inr (am_cFF, [.int 0, .null, .null, .null, .int 0, .int 0])) hb o
  have ha1 := am_mk_at S 1 6 (.inr (am_cFF, [.int 0, .null, .null, .null, .int 0, .int 0]))
  have hne : S.2.1 ≠ e ∧ S.2.1 ≠ nw ∧ S.2.1 ≠ b := ⟨fun z => by have := o _ _ hE; omega, fun z => by have := o _ _ hN; omega, fun z => by have := o _ _ hb; omega⟩
  show am_W g y_Lw_law 14 546 _ 3 _ _ (am_mk S 1 6 (.inr (am_cFF, [.int 0, .null, .null, .null, .int 0, .int 0])))
  have c1 : (am_mk S 1 6 (.inr (am_cFF, [.int 0, .null, .null, .null, .int 0, .int 0]))).2 = (S.2.1 + 1, S.2.2 + 6) := rfl
  generalize (am_mk S 1 6 (.inr (am_cFF, [.int 0, .null, .null, .null, .int 0, .int 0]))) = S1 at *
  generalize S.2.1 = a at *
  refine am_dup d_Lw_law_3 (by first | rfl | decide) ?_
  refine am_aload_n d_Lw_law_4 rfl (by first | exact am_rvR _ | exact am_rvN | assumption) ?_
  refine am_iconst (v := nI 0) d_Lw_law_5 (by decide) ?_
  refine am_cS d_Lw_law_6 s_Lw_9 (vs := [.ref b, .int (nI 0)]) (st := [.ref a, .ref a]) rfl rfl (by decide) (Nat.le_of_ble_eq_true rfl) (lw_cell hb1 (by omega) (by decide)) ?_
  rintro v S' ⟨rfl, hS'⟩
  rw [hS']
  clear hS' S'
  refine am_aload_n d_Lw_law_9 rfl (by first | exact am_rvR _ | exact am_rvN | assumption) ?_
  refine am_iconst (v := nI 1) d_Lw_law_10 (by decide) ?_
  refine am_cS d_Lw_law_11 s_Lw_9 (vs := [.ref b, .int (nI 1)]) (st := [.int (if 0 < L then xs 0 else 0), .ref a, .ref a]) rfl rfl (by decide) (Nat.le_of_ble_eq_true rfl) (lw_cell hb1 (by omega) (by decide)) ?_
  rintro v S' ⟨rfl, hS'⟩
  rw [hS']
  clear hS' S'
  refine am_aload_n d_Lw_law_14 rfl (by first | exact am_rvR _ | exact am_rvN | assumption) ?_
  refine am_iconst (v := nI 2) d_Lw_law_15 (by decide) ?_
  refine am_cS d_Lw_law_16 s_Lw_9 (vs := [.ref b, .int (nI 2)]) (st := [.int (if 1 < L then xs 1 else 0), .int (if 0 < L then xs 0 else 0), .ref a, .ref a]) rfl rfl (by decide) (Nat.le_of_ble_eq_true rfl) (lw_cell hb1 (by omega) (by decide)) ?_
  rintro v S' ⟨rfl, hS'⟩
  rw [hS']
  clear hS' S'
  refine am_cI d_Lw_law_19 i_Lw_15 (b := a) (vs := [.int (if 0 < L then xs 0 else 0), .int (if 1 < L then xs 1 else 0), .int (if 2 < L then xs 2 else 0)]) (st := [.ref a]) rfl rfl (by decide) (Nat.le_of_ble_eq_true rfl) (mk_FF n5 he ex' ez' eu' o1 ha1 hE1 hN1) ?_
  rintro v S2 ⟨rfl, hC2, ⟨k2, l2⟩, old2⟩
  have hb2 := old2 b 0 _ hb1 hne.2.2.symm (fun z => by unfold ci_X at z; omega)
  have o2 := hC2.1.1
  refine am_astore_n (L1 := [_, _, _, _]) d_Lw_law_22 (by decide) (by first | exact am_rvR _ | exact am_rvN | assumption) rfl ?_
  refine am_nw 10441 d_Lw_law_23 n_Lw_18 df_M ?_
  have hD : am_df am_cM (fm_fs S2.2.1 (S2.2.1 + 1) 0) := df_M
  show am_W g y_Lw_law 14 546 _ 26 _ _ (am_mk S2 10441 44 (.inr (am_cM, fm_fs S2.2.1 (S2.2.1 + 1) 0)))
  have o3 := o2.mk 10441 44 (.inr (am_cM, fm_fs S2.2.1 (S2.2.1 + 1) 0))
  have hb3 := am_mk_old (t := 10441) (n := 44) (x := .inr (am_cM, fm_fs S2.2.1 (S2.2.1 + 1) 0)) hb2 o2
  have ha3 : (am_mk S2 10441 44 (.inr (am_cM, fm_fs S2.2.1 (S2.2.1 + 1) 0))).1 S2.2.1 = some (10441, .inr (am_cM, fm_fs S2.2.1 (am_mk S2 10441 44 (.inr (am_cM, fm_fs S2.2.1 (S2.2.1 + 1) 0))).2.1 0)) := am_mk_at S2 10441 44 (.inr (am_cM, fm_fs S2.2.1 (S2.2.1 + 1) 0))
  have hC3 := hC2.more (am_fr.mk _ 10441 44 (.inr (am_cM, fm_fs S2.2.1 (S2.2.1 + 1) 0)) o2) (am_co.mk _ _ _ _)
  have c3 : (am_mk S2 10441 44 (.inr (am_cM, fm_fs S2.2.1 (S2.2.1 + 1) 0))).2 = (S2.2.1 + 1, S2.2.2 + 44) := rfl
  have hbm : b ≠ S2.2.1 := fun z => by have := o2 _ _ hb2; omega
  generalize (am_mk S2 10441 44 (.inr (am_cM, fm_fs S2.2.1 (S2.2.1 + 1) 0))) = S3 at *
  generalize em : S2.2.1 = am at hne ha3 hC3 c3 hbm ⊢
  refine am_dup d_Lw_law_26 (by first | rfl | decide) ?_
  refine am_aload_n d_Lw_law_27 rfl (by first | exact am_rvR _ | exact am_rvN | assumption) ?_
  refine am_iconst (v := nI 0) d_Lw_law_28 (by decide) ?_
  refine am_cS d_Lw_law_29 s_Lw_9 (vs := [.ref b, .int (nI 0)]) (st := [.ref am, .ref am]) rfl rfl (by decide) (Nat.le_of_ble_eq_true rfl) (lw_cell hb3 (by omega) (by decide)) ?_
  rintro v S' ⟨rfl, hS'⟩
  rw [hS']
  clear hS' S'
  refine am_aload_n d_Lw_law_32 rfl (by first | exact am_rvR _ | exact am_rvN | assumption) ?_
  refine am_iconst (v := nI 1) d_Lw_law_33 (by decide) ?_
  refine am_cS d_Lw_law_34 s_Lw_9 (vs := [.ref b, .int (nI 1)]) (st := [.int (if 0 < L then xs 0 else 0), .ref am, .ref am]) rfl rfl (by decide) (Nat.le_of_ble_eq_true rfl) (lw_cell hb3 (by omega) (by decide)) ?_
  rintro v S' ⟨rfl, hS'⟩
  rw [hS']
  clear hS' S'
  refine am_aload_n d_Lw_law_37 rfl (by first | exact am_rvR _ | exact am_rvN | assumption) ?_
  refine am_iconst (v := nI 2) d_Lw_law_38 (by decide) ?_
  refine am_cS d_Lw_law_39 s_Lw_9 (vs := [.ref b, .int (nI 2)]) (st := [.int (if 1 < L then xs 1 else 0), .int (if 0 < L then xs 0 else 0), .ref am, .ref am]) rfl rfl (by decide) (Nat.le_of_ble_eq_true rfl) (lw_cell hb3 (by omega) (by decide)) ?_
  rintro v S' ⟨rfl, hS'⟩
  rw [hS']
  clear hS' S'
  refine am_cI d_Lw_law_42 i_Lw_20 (b := am) (vs := [.int (if 0 < L then xs 0 else 0), .int (if 1 < L then xs 1 else 0), .int (if 2 < L then xs 2 else 0)]) (st := [.ref am]) rfl rfl (by decide) (Nat.le_of_ble_eq_true rfl) (mk_M (if 0 < L then xs 0 else 0) (if 1 < L then xs 1 else 0) (if 2 < L then xs 2 else 0) o3 ha3) ?_
  rintro v S4 ⟨rfl, hM4, old4⟩
  rw [ex, ez, eu] at hM4
  refine am_astore_n (L1 := [_, _, _, _]) d_Lw_law_45 (by decide) (by first | exact am_rvR _ | exact am_rvN | assumption) rfl ?_
  refine am_iconst (v := nI 3) d_Lw_law_46 (by decide) ?_
  refine am_istore_n (L1 := [_, _, _, _]) d_Lw_law_47 (by decide) rfl ?_
  have hb4 := old4 b 0 _ hb3 hbm (fun z => by unfold fr_X at z; omega)
  have q1 : S4.2.1 = S3.2.1 + 36 := hM4.2.2.2.1
  have q2 : S4.2.2 = S3.2.2 + 3898 := hM4.2.2.2.2
  have hf4 : am_fr fr_X S3 S4 := ⟨fun q t x h ht => by
    by_cases z : q = am
    · rw [z, ha3] at h
      cases h
      exact absurd (show fr_X 10441 by unfold fr_X; omega) ht
    · exact old4 q t x h z ht, by omega, by omega, fun _ => hM4.1⟩
  have hC4 := hC3.keptM n5 hf4 (k := 36) (n := 3898) ⟨by omega, by omega⟩
  have hM5 : fr_P (fm_U (fm_B S3 am) S4.2.1 S4.2.2) (fm_r (nI ns) (nI room) (nI idle)) S4 := by
    rw [hM4.2.2.2.1, hM4.2.2.2.2, fm_U_self]
    exact hM4
  have I0 : lw_I e nw ns room idle b L xs (ci_A a S1.2.1 ns) (fm_B S3 am) (S2.2.1 + 1 + 36) (S2.2.2 + 44 + 3898) 0 S4 := ⟨_, _, _, 0, hC4, hM5, hb4, fz_J.zero n1 n5 r1 r8, fc_iU.zero n5, fr_rel.zero n5, Nat.zero_le _, Nat.le_refl _, Nat.le_refl _⟩
  have e44 := fm_B44 S3 am
  have fin := lw_loop he hW hL 520 0 S4 (by omega) (by omega) I0
  rw [e44] at fin
  refine am_post (fun v S' h => ⟨h.1, ?_, ?_⟩) fin
  · have := h.2.1
    have z1 : S1.2.1 = a + 1 := congrArg Prod.fst c1
    omega
  · have := h.2.2
    have z1 : S1.2.2 = S.2.2 + 6 := congrArg Prod.snd c1
    omega
end LWC
