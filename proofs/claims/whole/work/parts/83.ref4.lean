/-! the reference: guard, matches, what is asked -/
section REI
variable {g : am_G} {A : Nat → Nat} {r : fr_S} {ns room idle : Nat} {s : fc_S}
theorem rf_guard (H : fr_rel ns room idle s r) (D : fc_iD ns room s) (x pr m v0 : Int32) : gm_M (fr_P A) fr_X g y_M_guard "(IIII)I" 1 21 [.ref (A 44), .int x, .int pr, .int m, .int v0] (fun v r' => v = some (.int (fc_guard ns s x pr m v0).1) ∧ fr_rel ns room idle (fc_guard ns s x pr m v0).2 r') r := by
  refine gm_Mof (L0 := [some (.ref (A 44)), some (.int x), some (.int pr), some (.int m), some (.int v0), none, none]) pl_M_guard (am_k1 rfl (am_k1 rfl (am_k1 rfl (am_k1 rfl (am_k1 rfl am_k0))))) (Nat.le_of_ble_eq_true rfl) rfl ?_
  refine gm_aload_n d_M_guard_0 rfl (by first | exact am_rvR _ | exact am_rvN | assumption) ?_
  refine gm_iload_n d_M_guard_1 rfl ?_
  refine gm_cV (b := A 44) d_M_guard_2 v_M_133 (vs := [.int x]) (st := []) rfl rfl (by decide) (Nat.le_of_ble_eq_true rfl) (fr_at _) (rf_isSwitch H.1.1 x) ?_
  rintro v r1 ⟨rfl, hr1⟩
  subst r1
  first | refine gm_if_eqB (tgt := 45) d_M_guard_5 (by decide) (fun q1 => ?_) (fun q1 => ?_) | refine gm_if_eqN (tgt := 45) d_M_guard_5 (by decide) (by omega) (fun q1 => ?_) (fun q1 => ?_) | refine gm_if_eq (tgt := 45) d_M_guard_5 (by decide) (fun q1 => ?_) (fun q1 => ?_)
  · refine gm_iconst (v := nI 0) d_M_guard_45 (by decide) ?_
    refine gm_istore (L1 := [_, _, _, _, _, _, _]) d_M_guard_46 (by decide) rfl ?_
    refine gm_iload d_M_guard_48 rfl ?_
    refine gm_if_eqN (tgt := 81) d_M_guard_50 (by decide) (by omega) (fun _ => ?_) (fun q => absurd q (by omega))
    refine gm_iconst (v := (-1)) d_M_guard_81 (by decide) ?_
    refine gm_iret d_M_guard_82 rfl rfl ?_
    first | (refine (fun (hbad : ¬ (fc_sw ns x = true ∧ 0 ≤ pr ∧ pr ≤ 9 ∧ 0 ≤ v0 ∧ v0 ≤ 6 ∧ 0 ≤ m ∧ m ≤ 511)) => ?_) ?_; (refine ⟨?_, ?_⟩; (focus (rw [fc_guard_bad hbad]; try rfl)); (focus (rw [fc_guard_bad hbad]; exact H))); (focus (rw [q1]; rintro ⟨z, -⟩; cases z; done))) | (refine (fun (hbad : ¬ (fc_sw ns x = true ∧ 0 ≤ pr ∧ pr ≤ 9 ∧ 0 ≤ v0 ∧ v0 ≤ 6 ∧ 0 ≤ m ∧ m ≤ 511)) => ?_) ?_; (refine ⟨?_, ?_⟩; (focus (rw [fc_guard_bad hbad]; try rfl)); (focus (rw [fc_guard_bad hbad]; exact H))); (focus (rintro ⟨-, z1, z2, z3, z4, z5, z6⟩; (simp only [Int32.lt_iff_toInt_lt, Int32.le_iff_toInt_le, am_n0, am_i0, am_n1, am_i1, am_n2, am_i2, am_n3, am_i3, am_n4, am_i4, am_n5, am_i5, am_n6, am_i6, am_n7, am_i7, am_n8, am_i8, am_n9, am_i9, am_n10, am_i10, am_n11, am_i11, am_m1, am_n511, am_i511] at *; omega))))
  · refine gm_iload_n d_M_guard_8 rfl ?_
    first | refine gm_if_ltN (tgt := 45) d_M_guard_9 (by decide) (by omega) (fun q2 => ?_) (fun q2 => ?_) | refine gm_if_lt (tgt := 45) d_M_guard_9 (by decide) (fun q2 => ?_) (fun q2 => ?_)
    · refine gm_iconst (v := nI 0) d_M_guard_45 (by decide) ?_
      refine gm_istore (L1 := [_, _, _, _, _, _, _]) d_M_guard_46 (by decide) rfl ?_
      refine gm_iload d_M_guard_48 rfl ?_
      refine gm_if_eqN (tgt := 81) d_M_guard_50 (by decide) (by omega) (fun _ => ?_) (fun q => absurd q (by omega))
      refine gm_iconst (v := (-1)) d_M_guard_81 (by decide) ?_
      refine gm_iret d_M_guard_82 rfl rfl ?_
      first | (refine (fun (hbad : ¬ (fc_sw ns x = true ∧ 0 ≤ pr ∧ pr ≤ 9 ∧ 0 ≤ v0 ∧ v0 ≤ 6 ∧ 0 ≤ m ∧ m ≤ 511)) => ?_) ?_; (refine ⟨?_, ?_⟩; (focus (rw [fc_guard_bad hbad]; try rfl)); (focus (rw [fc_guard_bad hbad]; exact H))); (focus (rw [q1]; rintro ⟨z, -⟩; cases z; done))) | (refine (fun (hbad : ¬ (fc_sw ns x = true ∧ 0 ≤ pr ∧ pr ≤ 9 ∧ 0 ≤ v0 ∧ v0 ≤ 6 ∧ 0 ≤ m ∧ m ≤ 511)) => ?_) ?_; (refine ⟨?_, ?_⟩; (focus (rw [fc_guard_bad hbad]; try rfl)); (focus (rw [fc_guard_bad hbad]; exact H))); (focus (rintro ⟨-, z1, z2, z3, z4, z5, z6⟩; (simp only [Int32.lt_iff_toInt_lt, Int32.le_iff_toInt_le, am_n0, am_i0, am_n1, am_i1, am_n2, am_i2, am_n3, am_i3, am_n4, am_i4, am_n5, am_i5, am_n6, am_i6, am_n7, am_i7, am_n8, am_i8, am_n9, am_i9, am_n10, am_i10, am_n11, am_i11, am_m1, am_n511, am_i511] at *; omega))))
    · refine gm_iload_n d_M_guard_12 rfl ?_
      refine gm_bipush (v := nI 9) d_M_guard_13 (by decide) ?_
      first | refine gm_icmp_gtN (tgt := 45) d_M_guard_15 (by decide) (by omega) (by omega) (fun q3 => ?_) (fun q3 => ?_) | refine gm_icmp_gt (tgt := 45) d_M_guard_15 (by decide) (fun q3 => ?_) (fun q3 => ?_)
      · refine gm_iconst (v := nI 0) d_M_guard_45 (by decide) ?_
        refine gm_istore (L1 := [_, _, _, _, _, _, _]) d_M_guard_46 (by decide) rfl ?_
        refine gm_iload d_M_guard_48 rfl ?_
        refine gm_if_eqN (tgt := 81) d_M_guard_50 (by decide) (by omega) (fun _ => ?_) (fun q => absurd q (by omega))
        refine gm_iconst (v := (-1)) d_M_guard_81 (by decide) ?_
        refine gm_iret d_M_guard_82 rfl rfl ?_
        first | (refine (fun (hbad : ¬ (fc_sw ns x = true ∧ 0 ≤ pr ∧ pr ≤ 9 ∧ 0 ≤ v0 ∧ v0 ≤ 6 ∧ 0 ≤ m ∧ m ≤ 511)) => ?_) ?_; (refine ⟨?_, ?_⟩; (focus (rw [fc_guard_bad hbad]; try rfl)); (focus (rw [fc_guard_bad hbad]; exact H))); (focus (rw [q1]; rintro ⟨z, -⟩; cases z; done))) | (refine (fun (hbad : ¬ (fc_sw ns x = true ∧ 0 ≤ pr ∧ pr ≤ 9 ∧ 0 ≤ v0 ∧ v0 ≤ 6 ∧ 0 ≤ m ∧ m ≤ 511)) => ?_) ?_; (refine ⟨?_, ?_⟩; (focus (rw [fc_guard_bad hbad]; try rfl)); (focus (rw [fc_guard_bad hbad]; exact H))); (focus (rintro ⟨-, z1, z2, z3, z4, z5, z6⟩; (simp only [Int32.lt_iff_toInt_lt, Int32.le_iff_toInt_le, am_n0, am_i0, am_n1, am_i1, am_n2, am_i2, am_n3, am_i3, am_n4, am_i4, am_n5, am_i5, am_n6, am_i6, am_n7, am_i7, am_n8, am_i8, am_n9, am_i9, am_n10, am_i10, am_n11, am_i11, am_m1, am_n511, am_i511] at *; omega))))
      · refine gm_iload d_M_guard_18 rfl ?_
        first | refine gm_if_ltN (tgt := 45) d_M_guard_20 (by decide) (by omega) (fun q4 => ?_) (fun q4 => ?_) | refine gm_if_lt (tgt := 45) d_M_guard_20 (by decide) (fun q4 => ?_) (fun q4 => ?_)
        · refine gm_iconst (v := nI 0) d_M_guard_45 (by decide) ?_
          refine gm_istore (L1 := [_, _, _, _, _, _, _]) d_M_guard_46 (by decide) rfl ?_
          refine gm_iload d_M_guard_48 rfl ?_
          refine gm_if_eqN (tgt := 81) d_M_guard_50 (by decide) (by omega) (fun _ => ?_) (fun q => absurd q (by omega))
          refine gm_iconst (v := (-1)) d_M_guard_81 (by decide) ?_
          refine gm_iret d_M_guard_82 rfl rfl ?_
          first | (refine (fun (hbad : ¬ (fc_sw ns x = true ∧ 0 ≤ pr ∧ pr ≤ 9 ∧ 0 ≤ v0 ∧ v0 ≤ 6 ∧ 0 ≤ m ∧ m ≤ 511)) => ?_) ?_; (refine ⟨?_, ?_⟩; (focus (rw [fc_guard_bad hbad]; try rfl)); (focus (rw [fc_guard_bad hbad]; exact H))); (focus (rw [q1]; rintro ⟨z, -⟩; cases z; done))) | (refine (fun (hbad : ¬ (fc_sw ns x = true ∧ 0 ≤ pr ∧ pr ≤ 9 ∧ 0 ≤ v0 ∧ v0 ≤ 6 ∧ 0 ≤ m ∧ m ≤ 511)) => ?_) ?_; (refine ⟨?_, ?_⟩; (focus (rw [fc_guard_bad hbad]; try rfl)); (focus (rw [fc_guard_bad hbad]; exact H))); (focus (rintro ⟨-, z1, z2, z3, z4, z5, z6⟩; (simp only [Int32.lt_iff_toInt_lt, Int32.le_iff_toInt_le, am_n0, am_i0, am_n1, am_i1, am_n2, am_i2, am_n3, am_i3, am_n4, am_i4, am_n5, am_i5, am_n6, am_i6, am_n7, am_i7, am_n8, am_i8, am_n9, am_i9, am_n10, am_i10, am_n11, am_i11, am_m1, am_n511, am_i511] at *; omega))))
        · refine gm_iload d_M_guard_23 rfl ?_
          refine gm_bipush (v := nI 6) d_M_guard_25 (by decide) ?_
          first | refine gm_icmp_gtN (tgt := 45) d_M_guard_27 (by decide) (by omega) (by omega) (fun q5 => ?_) (fun q5 => ?_) | refine gm_icmp_gt (tgt := 45) d_M_guard_27 (by decide) (fun q5 => ?_) (fun q5 => ?_)
          · refine gm_iconst (v := nI 0) d_M_guard_45 (by decide) ?_
            refine gm_istore (L1 := [_, _, _, _, _, _, _]) d_M_guard_46 (by decide) rfl ?_
            refine gm_iload d_M_guard_48 rfl ?_
            refine gm_if_eqN (tgt := 81) d_M_guard_50 (by decide) (by omega) (fun _ => ?_) (fun q => absurd q (by omega))
            refine gm_iconst (v := (-1)) d_M_guard_81 (by decide) ?_
            refine gm_iret d_M_guard_82 rfl rfl ?_
            first | (refine (fun (hbad : ¬ (fc_sw ns x = true ∧ 0 ≤ pr ∧ pr ≤ 9 ∧ 0 ≤ v0 ∧ v0 ≤ 6 ∧ 0 ≤ m ∧ m ≤ 511)) => ?_) ?_; (refine ⟨?_, ?_⟩; (focus (rw [fc_guard_bad hbad]; try rfl)); (focus (rw [fc_guard_bad hbad]; exact H))); (focus (rw [q1]; rintro ⟨z, -⟩; cases z; done))) | (refine (fun (hbad : ¬ (fc_sw ns x = true ∧ 0 ≤ pr ∧ pr ≤ 9 ∧ 0 ≤ v0 ∧ v0 ≤ 6 ∧ 0 ≤ m ∧ m ≤ 511)) => ?_) ?_; (refine ⟨?_, ?_⟩; (focus (rw [fc_guard_bad hbad]; try rfl)); (focus (rw [fc_guard_bad hbad]; exact H))); (focus (rintro ⟨-, z1, z2, z3, z4, z5, z6⟩; (simp only [Int32.lt_iff_toInt_lt, Int32.le_iff_toInt_le, am_n0, am_i0, am_n1, am_i1, am_n2, am_i2, am_n3, am_i3, am_n4, am_i4, am_n5, am_i5, am_n6, am_i6, am_n7, am_i7, am_n8, am_i8, am_n9, am_i9, am_n10, am_i10, am_n11, am_i11, am_m1, am_n511, am_i511] at *; omega))))
          · refine gm_iload_n d_M_guard_30 rfl ?_
            first | refine gm_if_ltN (tgt := 45) d_M_guard_31 (by decide) (by omega) (fun q6 => ?_) (fun q6 => ?_) | refine gm_if_lt (tgt := 45) d_M_guard_31 (by decide) (fun q6 => ?_) (fun q6 => ?_)
            · refine gm_iconst (v := nI 0) d_M_guard_45 (by decide) ?_
              refine gm_istore (L1 := [_, _, _, _, _, _, _]) d_M_guard_46 (by decide) rfl ?_
              refine gm_iload d_M_guard_48 rfl ?_
              refine gm_if_eqN (tgt := 81) d_M_guard_50 (by decide) (by omega) (fun _ => ?_) (fun q => absurd q (by omega))
              refine gm_iconst (v := (-1)) d_M_guard_81 (by decide) ?_
              refine gm_iret d_M_guard_82 rfl rfl ?_
              first | (refine (fun (hbad : ¬ (fc_sw ns x = true ∧ 0 ≤ pr ∧ pr ≤ 9 ∧ 0 ≤ v0 ∧ v0 ≤ 6 ∧ 0 ≤ m ∧ m ≤ 511)) => ?_) ?_; (refine ⟨?_, ?_⟩; (focus (rw [fc_guard_bad hbad]; try rfl)); (focus (rw [fc_guard_bad hbad]; exact H))); (focus (rw [q1]; rintro ⟨z, -⟩; cases z; done))) | (refine (fun (hbad : ¬ (fc_sw ns x = true ∧ 0 ≤ pr ∧ pr ≤ 9 ∧ 0 ≤ v0 ∧ v0 ≤ 6 ∧ 0 ≤ m ∧ m ≤ 511)) => ?_) ?_; (refine ⟨?_, ?_⟩; (focus (rw [fc_guard_bad hbad]; try rfl)); (focus (rw [fc_guard_bad hbad]; exact H))); (focus (rintro ⟨-, z1, z2, z3, z4, z5, z6⟩; (simp only [Int32.lt_iff_toInt_lt, Int32.le_iff_toInt_le, am_n0, am_i0, am_n1, am_i1, am_n2, am_i2, am_n3, am_i3, am_n4, am_i4, am_n5, am_i5, am_n6, am_i6, am_n7, am_i7, am_n8, am_i8, am_n9, am_i9, am_n10, am_i10, am_n11, am_i11, am_m1, am_n511, am_i511] at *; omega))))
            · refine gm_iload_n d_M_guard_34 rfl ?_
              refine gm_sipush (v := nI 511) d_M_guard_35 (by decide) ?_
              first | refine gm_icmp_gtN (tgt := 45) d_M_guard_38 (by decide) (by omega) (by omega) (fun q7 => ?_) (fun q7 => ?_) | refine gm_icmp_gt (tgt := 45) d_M_guard_38 (by decide) (fun q7 => ?_) (fun q7 => ?_)
              · refine gm_iconst (v := nI 0) d_M_guard_45 (by decide) ?_
                refine gm_istore (L1 := [_, _, _, _, _, _, _]) d_M_guard_46 (by decide) rfl ?_
                refine gm_iload d_M_guard_48 rfl ?_
                refine gm_if_eqN (tgt := 81) d_M_guard_50 (by decide) (by omega) (fun _ => ?_) (fun q => absurd q (by omega))
                refine gm_iconst (v := (-1)) d_M_guard_81 (by decide) ?_
                refine gm_iret d_M_guard_82 rfl rfl ?_
                first | (refine (fun (hbad : ¬ (fc_sw ns x = true ∧ 0 ≤ pr ∧ pr ≤ 9 ∧ 0 ≤ v0 ∧ v0 ≤ 6 ∧ 0 ≤ m ∧ m ≤ 511)) => ?_) ?_; (refine ⟨?_, ?_⟩; (focus (rw [fc_guard_bad hbad]; try rfl)); (focus (rw [fc_guard_bad hbad]; exact H))); (focus (rw [q1]; rintro ⟨z, -⟩; cases z; done))) | (refine (fun (hbad : ¬ (fc_sw ns x = true ∧ 0 ≤ pr ∧ pr ≤ 9 ∧ 0 ≤ v0 ∧ v0 ≤ 6 ∧ 0 ≤ m ∧ m ≤ 511)) => ?_) ?_; (refine ⟨?_, ?_⟩; (focus (rw [fc_guard_bad hbad]; try rfl)); (focus (rw [fc_guard_bad hbad]; exact H))); (focus (rintro ⟨-, z1, z2, z3, z4, z5, z6⟩; (simp only [Int32.lt_iff_toInt_lt, Int32.le_iff_toInt_le, am_n0, am_i0, am_n1, am_i1, am_n2, am_i2, am_n3, am_i3, am_n4, am_i4, am_n5, am_i5, am_n6, am_i6, am_n7, am_i7, am_n8, am_i8, am_n9, am_i9, am_n10, am_i10, am_n11, am_i11, am_m1, am_n511, am_i511] at *; omega))))
              · have zz : 0 ≤ pr ∧ pr ≤ 9 ∧ 0 ≤ v0 ∧ v0 ≤ 6 ∧ 0 ≤ m ∧ m ≤ 511 := by (simp only [Int32.lt_iff_toInt_lt, Int32.le_iff_toInt_le, am_n0, am_i0, am_n1, am_i1, am_n2, am_i2, am_n3, am_i3, am_n4, am_i4, am_n5, am_i5, am_n6, am_i6, am_n7, am_i7, am_n8, am_i8, am_n9, am_i9, am_n10, am_i10, am_n11, am_i11, am_m1, am_n511, am_i511] at *; omega)
                obtain ⟨z1, z2, z3, z4, z5, z6⟩ := zz
                clear q2 q3 q4 q5 q6 q7
                obtain ⟨pr', hpr, rfl⟩ := fc_rng (n := 9) (by omega) z1 z2
                obtain ⟨v', hv, rfl⟩ := fc_rng (n := 6) (by omega) z3 z4
                obtain ⟨m', hm, rfl⟩ := fc_rng (n := 511) (by omega) z5 z6
                have n5 := D.1.2.1
                obtain ⟨i, hi, rfl⟩ := fc_sw_nat n5 q1
                obtain ⟨b1, b2, b3, -, -, -⟩ := am_bits m' (by omega)
                have h14 : r.2 14 i = nI (s (10 + i)).length := (H.2.2.2.2.1 i hi).1
                have g4 := D.g4 i hi
                refine gm_iconst (v := nI 1) d_M_guard_41 (by decide) ?_
                refine gm_goto (tgt := 46) d_M_guard_42 (by decide) ?_
                refine gm_istore (L1 := [_, _, _, _, _, _, _]) d_M_guard_46 (by decide) rfl ?_
                refine gm_iload d_M_guard_48 rfl ?_
                refine gm_if_eqN (tgt := 81) d_M_guard_50 (by decide) (by omega) (fun q => absurd q (by omega)) (fun _ => ?_)
                refine gm_iload_n d_M_guard_53 rfl ?_
                refine gm_bipush (v := nI 7) d_M_guard_54 (by decide) ?_
                refine gm_iand d_M_guard_56 ?_
                rw [b1]
                refine gm_iconst (v := nI 4) d_M_guard_57 (by decide) ?_
                first | refine gm_icmp_gtN (tgt := 81) d_M_guard_58 (by decide) (by omega) (by omega) (fun q8 => ?_) (fun q8 => ?_) | refine gm_icmp_gt (tgt := 81) d_M_guard_58 (by decide) (fun q8 => ?_) (fun q8 => ?_)
                · refine gm_iconst (v := (-1)) d_M_guard_81 (by decide) ?_
                  refine gm_iret d_M_guard_82 rfl rfl ?_
                  first | (refine ⟨?_, ?_⟩; (focus (rw [fc_guard_eq n5 hi q1 hpr hv hm, if_neg (show ¬ (m' % 8 ≤ 4 ∧ m' / 8 % 8 ≤ 6 ∧ m' / 64 ≤ 6) by omega)]; try rfl)); (focus (rw [fc_guard_eq n5 hi q1 hpr hv hm, if_neg (show ¬ (m' % 8 ≤ 4 ∧ m' / 8 % 8 ≤ 6 ∧ m' / 64 ≤ 6) by omega)]; exact H))) | (refine ⟨?_, ?_⟩; (focus (rw [fc_guard_eq n5 hi q1 hpr hv hm, if_pos (show (m' % 8 ≤ 4 ∧ m' / 8 % 8 ≤ 6 ∧ m' / 64 ≤ 6) by omega), if_pos (show 4 ≤ (s (10 + i)).length by omega)]; try rfl)); (focus (rw [fc_guard_eq n5 hi q1 hpr hv hm, if_pos (show (m' % 8 ≤ 4 ∧ m' / 8 % 8 ≤ 6 ∧ m' / 64 ≤ 6) by omega), if_pos (show 4 ≤ (s (10 + i)).length by omega)]; exact H))) | (refine ⟨?_, ?_⟩; (focus (rw [fc_guard_eq n5 hi q1 hpr hv hm, if_pos (show (m' % 8 ≤ 4 ∧ m' / 8 % 8 ≤ 6 ∧ m' / 64 ≤ 6) by omega), if_neg (show ¬ 4 ≤ (s (10 + i)).length by omega)]; try rfl)); (focus (rw [fc_guard_eq n5 hi q1 hpr hv hm, if_pos (show (m' % 8 ≤ 4 ∧ m' / 8 % 8 ≤ 6 ∧ m' / 64 ≤ 6) by omega), if_neg (show ¬ 4 ≤ (s (10 + i)).length by omega)]; exact H.gadd D hi (by omega) _ _ _)))
                · refine gm_iload_n d_M_guard_61 rfl ?_
                  refine gm_iconst (v := nI 3) d_M_guard_62 (by decide) ?_
                  refine gm_ishr d_M_guard_63 ?_
                  refine gm_bipush (v := nI 7) d_M_guard_64 (by decide) ?_
                  refine gm_iand d_M_guard_66 ?_
                  rw [b2]
                  refine gm_bipush (v := nI 6) d_M_guard_67 (by decide) ?_
                  first | refine gm_icmp_gtN (tgt := 81) d_M_guard_69 (by decide) (by omega) (by omega) (fun q9 => ?_) (fun q9 => ?_) | refine gm_icmp_gt (tgt := 81) d_M_guard_69 (by decide) (fun q9 => ?_) (fun q9 => ?_)
                  · refine gm_iconst (v := (-1)) d_M_guard_81 (by decide) ?_
                    refine gm_iret d_M_guard_82 rfl rfl ?_
                    first | (refine ⟨?_, ?_⟩; (focus (rw [fc_guard_eq n5 hi q1 hpr hv hm, if_neg (show ¬ (m' % 8 ≤ 4 ∧ m' / 8 % 8 ≤ 6 ∧ m' / 64 ≤ 6) by omega)]; try rfl)); (focus (rw [fc_guard_eq n5 hi q1 hpr hv hm, if_neg (show ¬ (m' % 8 ≤ 4 ∧ m' / 8 % 8 ≤ 6 ∧ m' / 64 ≤ 6) by omega)]; exact H))) | (refine ⟨?_, ?_⟩; (focus (rw [fc_guard_eq n5 hi q1 hpr hv hm, if_pos (show (m' % 8 ≤ 4 ∧ m' / 8 % 8 ≤ 6 ∧ m' / 64 ≤ 6) by omega), if_pos (show 4 ≤ (s (10 + i)).length by omega)]; try rfl)); (focus (rw [fc_guard_eq n5 hi q1 hpr hv hm, if_pos (show (m' % 8 ≤ 4 ∧ m' / 8 % 8 ≤ 6 ∧ m' / 64 ≤ 6) by omega), if_pos (show 4 ≤ (s (10 + i)).length by omega)]; exact H))) | (refine ⟨?_, ?_⟩; (focus (rw [fc_guard_eq n5 hi q1 hpr hv hm, if_pos (show (m' % 8 ≤ 4 ∧ m' / 8 % 8 ≤ 6 ∧ m' / 64 ≤ 6) by omega), if_neg (show ¬ 4 ≤ (s (10 + i)).length by omega)]; try rfl)); (focus (rw [fc_guard_eq n5 hi q1 hpr hv hm, if_pos (show (m' % 8 ≤ 4 ∧ m' / 8 % 8 ≤ 6 ∧ m' / 64 ≤ 6) by omega), if_neg (show ¬ 4 ≤ (s (10 + i)).length by omega)]; exact H.gadd D hi (by omega) _ _ _)))
                  · refine gm_iload_n d_M_guard_72 rfl ?_
                    refine gm_bipush (v := nI 6) d_M_guard_73 (by decide) ?_
                    refine gm_ishr d_M_guard_75 ?_
                    rw [b3]
                    refine gm_bipush (v := nI 6) d_M_guard_76 (by decide) ?_
                    first | refine gm_icmp_leN (tgt := 83) d_M_guard_78 (by decide) (by omega) (by omega) (fun q10 => ?_) (fun q10 => ?_) | refine gm_icmp_le (tgt := 83) d_M_guard_78 (by decide) (fun q10 => ?_) (fun q10 => ?_)
                    · refine gm_aload_n d_M_guard_83 rfl (by first | exact am_rvR _ | exact am_rvN | assumption) ?_
                      refine fr_gA 14 d_M_guard_84 f_M_38 (by decide) (by decide) ?_
                      refine gm_iload_n d_M_guard_87 rfl ?_
                      refine fr_aldv d_M_guard_88 (by decide) rfl (show _ < 5 by omega) (by first | assumption | (simp only [fr_up_at, fr_up_s, fr_sc_at, fr_sc_a, Nat.reduceEqDiff, false_and, if_false, ite_false, reduceCtorEq]; first | assumption | rfl) | rfl) ?_
                      refine gm_iconst (v := nI 4) d_M_guard_89 (by decide) ?_
                      first | refine gm_icmp_neN (tgt := 96) d_M_guard_90 (by decide) (by omega) (by omega) (fun q11 => ?_) (fun q11 => ?_) | refine gm_icmp_ne (tgt := 96) d_M_guard_90 (by decide) (fun q11 => ?_) (fun q11 => ?_)
                      · refine gm_iconst (v := nI 4) d_M_guard_96 (by decide) ?_
                        refine gm_iload_n d_M_guard_97 rfl ?_
                        first | refine gm_imulN d_M_guard_98 ?_ | refine gm_imul d_M_guard_98 ?_
                        refine gm_aload_n d_M_guard_99 rfl (by first | exact am_rvR _ | exact am_rvN | assumption) ?_
                        refine fr_gA 14 d_M_guard_100 f_M_38 (by decide) (by decide) ?_
                        refine gm_iload_n d_M_guard_103 rfl ?_
                        refine fr_aldv d_M_guard_104 (by decide) rfl (show _ < 5 by omega) (by first | assumption | (simp only [fr_up_at, fr_up_s, fr_sc_at, fr_sc_a, Nat.reduceEqDiff, false_and, if_false, ite_false, reduceCtorEq]; first | assumption | rfl) | rfl) ?_
                        first | refine gm_iaddN d_M_guard_105 ?_ | refine gm_iadd d_M_guard_105 ?_
                        refine gm_istore (L1 := [_, _, _, _, _, _, _]) d_M_guard_106 (by decide) rfl ?_
                        refine gm_aload_n d_M_guard_108 rfl (by first | exact am_rvR _ | exact am_rvN | assumption) ?_
                        refine fr_gA 15 d_M_guard_109 f_M_41 (by decide) (by decide) ?_
                        refine gm_iload d_M_guard_112 rfl ?_
                        refine gm_iload_n d_M_guard_114 rfl ?_
                        refine fr_ast d_M_guard_115 (by decide) rfl (show _ < 20 by omega) ?_
                        refine gm_aload_n d_M_guard_116 rfl (by first | exact am_rvR _ | exact am_rvN | assumption) ?_
                        refine fr_gA 16 d_M_guard_117 f_M_44 (by decide) (by decide) ?_
                        refine gm_iload d_M_guard_120 rfl ?_
                        refine gm_iload_n d_M_guard_122 rfl ?_
                        refine fr_ast d_M_guard_123 (by decide) rfl (show _ < 20 by omega) ?_
                        refine gm_aload_n d_M_guard_124 rfl (by first | exact am_rvR _ | exact am_rvN | assumption) ?_
                        refine fr_gA 17 d_M_guard_125 f_M_47 (by decide) (by decide) ?_
                        refine gm_iload d_M_guard_128 rfl ?_
                        refine gm_iload d_M_guard_130 rfl ?_
                        refine fr_ast d_M_guard_132 (by decide) rfl (show _ < 20 by omega) ?_
                        refine gm_aload_n d_M_guard_133 rfl (by first | exact am_rvR _ | exact am_rvN | assumption) ?_
                        refine fr_gA 18 d_M_guard_134 f_M_50 (by decide) (by decide) ?_
                        refine gm_iload d_M_guard_137 rfl ?_
                        refine gm_iconst (v := nI 0) d_M_guard_139 (by decide) ?_
                        refine fr_ast d_M_guard_140 (by decide) rfl (show _ < 20 by omega) ?_
                        refine gm_aload_n d_M_guard_141 rfl (by first | exact am_rvR _ | exact am_rvN | assumption) ?_
                        refine fr_gA 14 d_M_guard_142 f_M_38 (by decide) (by decide) ?_
                        refine gm_iload_n d_M_guard_145 rfl ?_
                        refine gm_dup2 d_M_guard_146 rfl rfl ?_
                        refine fr_aldv d_M_guard_147 (by decide) rfl (show _ < 5 by omega) (by first | assumption | (simp only [fr_up_at, fr_up_s, fr_sc_at, fr_sc_a, Nat.reduceEqDiff, false_and, if_false, ite_false, reduceCtorEq]; first | assumption | rfl) | rfl) ?_
                        refine gm_iconst (v := nI 1) d_M_guard_148 (by decide) ?_
                        first | refine gm_iaddN d_M_guard_149 ?_ | refine gm_iadd d_M_guard_149 ?_
                        refine fr_ast d_M_guard_150 (by decide) rfl (show _ < 5 by omega) ?_
                        refine gm_aload_n d_M_guard_151 rfl (by first | exact am_rvR _ | exact am_rvN | assumption) ?_
                        refine fr_gA 14 d_M_guard_152 f_M_38 (by decide) (by decide) ?_
                        refine gm_iload_n d_M_guard_155 rfl ?_
                        refine fr_aldv d_M_guard_156 (by decide) rfl (show _ < 5 by omega) (by first | assumption | (simp only [fr_up_at, fr_up_s, fr_sc_at, fr_sc_a, Nat.reduceEqDiff, false_and, if_false, ite_false, reduceCtorEq]; first | assumption | rfl) | rfl) ?_
                        refine gm_iconst (v := nI 1) d_M_guard_157 (by decide) ?_
                        first | refine gm_isubN d_M_guard_158 (by omega) ?_ | refine gm_isub d_M_guard_158 ?_
                        refine gm_iret d_M_guard_159 rfl rfl ?_
                        first | (refine ⟨?_, ?_⟩; (focus (rw [fc_guard_eq n5 hi q1 hpr hv hm, if_neg (show ¬ (m' % 8 ≤ 4 ∧ m' / 8 % 8 ≤ 6 ∧ m' / 64 ≤ 6) by omega)]; try rfl)); (focus (rw [fc_guard_eq n5 hi q1 hpr hv hm, if_neg (show ¬ (m' % 8 ≤ 4 ∧ m' / 8 % 8 ≤ 6 ∧ m' / 64 ≤ 6) by omega)]; exact H))) | (refine ⟨?_, ?_⟩; (focus (rw [fc_guard_eq n5 hi q1 hpr hv hm, if_pos (show (m' % 8 ≤ 4 ∧ m' / 8 % 8 ≤ 6 ∧ m' / 64 ≤ 6) by omega), if_pos (show 4 ≤ (s (10 + i)).length by omega)]; try rfl)); (focus (rw [fc_guard_eq n5 hi q1 hpr hv hm, if_pos (show (m' % 8 ≤ 4 ∧ m' / 8 % 8 ≤ 6 ∧ m' / 64 ≤ 6) by omega), if_pos (show 4 ≤ (s (10 + i)).length by omega)]; exact H))) | (refine ⟨?_, ?_⟩; (focus (rw [fc_guard_eq n5 hi q1 hpr hv hm, if_pos (show (m' % 8 ≤ 4 ∧ m' / 8 % 8 ≤ 6 ∧ m' / 64 ≤ 6) by omega), if_neg (show ¬ 4 ≤ (s (10 + i)).length by omega)]; try rfl)); (focus (rw [fc_guard_eq n5 hi q1 hpr hv hm, if_pos (show (m' % 8 ≤ 4 ∧ m' / 8 % 8 ≤ 6 ∧ m' / 64 ≤ 6) by omega), if_neg (show ¬ 4 ≤ (s (10 + i)).length by omega)]; exact H.gadd D hi (by omega) _ _ _)))
                      · refine gm_bipush (v := (-2)) d_M_guard_93 (by decide) ?_
                        refine gm_iret d_M_guard_95 rfl rfl ?_
                        first | (refine ⟨?_, ?_⟩; (focus (rw [fc_guard_eq n5 hi q1 hpr hv hm, if_neg (show ¬ (m' % 8 ≤ 4 ∧ m' / 8 % 8 ≤ 6 ∧ m' / 64 ≤ 6) by omega)]; try rfl)); (focus (rw [fc_guard_eq n5 hi q1 hpr hv hm, if_neg (show ¬ (m' % 8 ≤ 4 ∧ m' / 8 % 8 ≤ 6 ∧ m' / 64 ≤ 6) by omega)]; exact H))) | (refine ⟨?_, ?_⟩; (focus (rw [fc_guard_eq n5 hi q1 hpr hv hm, if_pos (show (m' % 8 ≤ 4 ∧ m' / 8 % 8 ≤ 6 ∧ m' / 64 ≤ 6) by omega), if_pos (show 4 ≤ (s (10 + i)).length by omega)]; try rfl)); (focus (rw [fc_guard_eq n5 hi q1 hpr hv hm, if_pos (show (m' % 8 ≤ 4 ∧ m' / 8 % 8 ≤ 6 ∧ m' / 64 ≤ 6) by omega), if_pos (show 4 ≤ (s (10 + i)).length by omega)]; exact H))) | (refine ⟨?_, ?_⟩; (focus (rw [fc_guard_eq n5 hi q1 hpr hv hm, if_pos (show (m' % 8 ≤ 4 ∧ m' / 8 % 8 ≤ 6 ∧ m' / 64 ≤ 6) by omega), if_neg (show ¬ 4 ≤ (s (10 + i)).length by omega)]; try rfl)); (focus (rw [fc_guard_eq n5 hi q1 hpr hv hm, if_pos (show (m' % 8 ≤ 4 ∧ m' / 8 % 8 ≤ 6 ∧ m' / 64 ≤ 6) by omega), if_neg (show ¬ 4 ≤ (s (10 + i)).length by omega)]; exact H.gadd D hi (by omega) _ _ _)))
                    · refine gm_iconst (v := (-1)) d_M_guard_81 (by decide) ?_
                      refine gm_iret d_M_guard_82 rfl rfl ?_
                      first | (refine ⟨?_, ?_⟩; (focus (rw [fc_guard_eq n5 hi q1 hpr hv hm, if_neg (show ¬ (m' % 8 ≤ 4 ∧ m' / 8 % 8 ≤ 6 ∧ m' / 64 ≤ 6) by omega)]; try rfl)); (focus (rw [fc_guard_eq n5 hi q1 hpr hv hm, if_neg (show ¬ (m' % 8 ≤ 4 ∧ m' / 8 % 8 ≤ 6 ∧ m' / 64 ≤ 6) by omega)]; exact H))) | (refine ⟨?_, ?_⟩; (focus (rw [fc_guard_eq n5 hi q1 hpr hv hm, if_pos (show (m' % 8 ≤ 4 ∧ m' / 8 % 8 ≤ 6 ∧ m' / 64 ≤ 6) by omega), if_pos (show 4 ≤ (s (10 + i)).length by omega)]; try rfl)); (focus (rw [fc_guard_eq n5 hi q1 hpr hv hm, if_pos (show (m' % 8 ≤ 4 ∧ m' / 8 % 8 ≤ 6 ∧ m' / 64 ≤ 6) by omega), if_pos (show 4 ≤ (s (10 + i)).length by omega)]; exact H))) | (refine ⟨?_, ?_⟩; (focus (rw [fc_guard_eq n5 hi q1 hpr hv hm, if_pos (show (m' % 8 ≤ 4 ∧ m' / 8 % 8 ≤ 6 ∧ m' / 64 ≤ 6) by omega), if_neg (show ¬ 4 ≤ (s (10 + i)).length by omega)]; try rfl)); (focus (rw [fc_guard_eq n5 hi q1 hpr hv hm, if_pos (show (m' % 8 ≤ 4 ∧ m' / 8 % 8 ≤ 6 ∧ m' / 64 ≤ 6) by omega), if_neg (show ¬ 4 ≤ (s (10 + i)).length by omega)]; exact H.gadd D hi (by omega) _ _ _)))
theorem rf_matches {m p f t : Nat} (hm : m ≤ 511) (hp : p < 1000) (hf : f < 1000) (ht : t < 1000) : gm_M (fr_P A) fr_X g y_M_matches "(IIII)Z" 0 0 [.int (nI m), .int (nI p), .int (nI f), .int (nI t)] (fun v r' => v = some (.int (am_b (fc_mch (nI m) (nI p) (nI f) (nI t)))) ∧ r' = r) r := by
  obtain ⟨b1, b2, b3, -, -, -⟩ := am_bits m (by omega)
  refine gm_Mof (L0 := [some (.int (nI m)), some (.int (nI p)), some (.int (nI f)), some (.int (nI t))]) pl_M_matches (am_k1 rfl (am_k1 rfl (am_k1 rfl (am_k1 rfl am_k0)))) (Nat.le_of_ble_eq_true rfl) rfl ?_
  refine gm_iload_n d_M_matches_0 rfl ?_
  refine gm_bipush (v := nI 7) d_M_matches_1 (by decide) ?_
  refine gm_iand d_M_matches_3 ?_
  rw [b1]
  first | refine gm_if_eqB (tgt := 17) d_M_matches_4 (by decide) (fun q1 => ?_) (fun q1 => ?_) | refine gm_if_eqN (tgt := 17) d_M_matches_4 (by decide) (by omega) (fun q1 => ?_) (fun q1 => ?_) | refine gm_if_eq (tgt := 17) d_M_matches_4 (by decide) (fun q1 => ?_) (fun q1 => ?_)
  · refine gm_iload_n d_M_matches_17 rfl ?_
    refine gm_iconst (v := nI 3) d_M_matches_18 (by decide) ?_
    refine gm_ishr d_M_matches_19 ?_
    refine gm_bipush (v := nI 7) d_M_matches_20 (by decide) ?_
    refine gm_iand d_M_matches_22 ?_
    rw [b2]
    first | refine gm_if_eqB (tgt := 38) d_M_matches_23 (by decide) (fun q2 => ?_) (fun q2 => ?_) | refine gm_if_eqN (tgt := 38) d_M_matches_23 (by decide) (by omega) (fun q2 => ?_) (fun q2 => ?_) | refine gm_if_eq (tgt := 38) d_M_matches_23 (by decide) (fun q2 => ?_) (fun q2 => ?_)
    · refine gm_iload_n d_M_matches_38 rfl ?_
      refine gm_bipush (v := nI 6) d_M_matches_39 (by decide) ?_
      refine gm_ishr d_M_matches_41 ?_
      rw [b3]
      first | refine gm_if_eqB (tgt := 55) d_M_matches_42 (by decide) (fun q3 => ?_) (fun q3 => ?_) | refine gm_if_eqN (tgt := 55) d_M_matches_42 (by decide) (by omega) (fun q3 => ?_) (fun q3 => ?_) | refine gm_if_eq (tgt := 55) d_M_matches_42 (by decide) (fun q3 => ?_) (fun q3 => ?_)
      · refine gm_iconst (v := nI 1) d_M_matches_55 (by decide) ?_
        refine gm_goto (tgt := 60) d_M_matches_56 (by decide) ?_
        refine gm_iret d_M_matches_60 rfl (by first | rfl | exact am_b_nar _) ?_
        exact ⟨by rw [fc_mch_nat hm hp hf ht]; first | (refine am_bt ?_; simp only [Bool.and_eq_true, decide_eq_true_eq]; omega) | (refine am_bf ?_; simp only [Bool.and_eq_false_iff, decide_eq_false_iff_not]; omega), rfl⟩
      · refine gm_iload_n d_M_matches_45 rfl ?_
        refine gm_bipush (v := nI 6) d_M_matches_46 (by decide) ?_
        refine gm_ishr d_M_matches_48 ?_
        refine gm_iload_n d_M_matches_49 rfl ?_
        refine gm_iconst (v := nI 1) d_M_matches_50 (by decide) ?_
        first | refine gm_iaddN d_M_matches_51 ?_ | refine gm_iadd d_M_matches_51 ?_
        rw [b3]
        first | refine gm_icmp_neN (tgt := 59) d_M_matches_52 (by decide) (by omega) (by omega) (fun q4 => ?_) (fun q4 => ?_) | refine gm_icmp_ne (tgt := 59) d_M_matches_52 (by decide) (fun q4 => ?_) (fun q4 => ?_)
        · refine gm_iconst (v := nI 0) d_M_matches_59 (by decide) ?_
          refine gm_iret d_M_matches_60 rfl (by first | rfl | exact am_b_nar _) ?_
          exact ⟨by rw [fc_mch_nat hm hp hf ht]; first | (refine am_bt ?_; simp only [Bool.and_eq_true, decide_eq_true_eq]; omega) | (refine am_bf ?_; simp only [Bool.and_eq_false_iff, decide_eq_false_iff_not]; omega), rfl⟩
        · refine gm_iconst (v := nI 1) d_M_matches_55 (by decide) ?_
          refine gm_goto (tgt := 60) d_M_matches_56 (by decide) ?_
          refine gm_iret d_M_matches_60 rfl (by first | rfl | exact am_b_nar _) ?_
          exact ⟨by rw [fc_mch_nat hm hp hf ht]; first | (refine am_bt ?_; simp only [Bool.and_eq_true, decide_eq_true_eq]; omega) | (refine am_bf ?_; simp only [Bool.and_eq_false_iff, decide_eq_false_iff_not]; omega), rfl⟩
    · refine gm_iload_n d_M_matches_26 rfl ?_
      refine gm_iconst (v := nI 3) d_M_matches_27 (by decide) ?_
      refine gm_ishr d_M_matches_28 ?_
      refine gm_bipush (v := nI 7) d_M_matches_29 (by decide) ?_
      refine gm_iand d_M_matches_31 ?_
      refine gm_iload_n d_M_matches_32 rfl ?_
      refine gm_iconst (v := nI 1) d_M_matches_33 (by decide) ?_
      first | refine gm_iaddN d_M_matches_34 ?_ | refine gm_iadd d_M_matches_34 ?_
      rw [b2]
      first | refine gm_icmp_neN (tgt := 59) d_M_matches_35 (by decide) (by omega) (by omega) (fun q5 => ?_) (fun q5 => ?_) | refine gm_icmp_ne (tgt := 59) d_M_matches_35 (by decide) (fun q5 => ?_) (fun q5 => ?_)
      · refine gm_iconst (v := nI 0) d_M_matches_59 (by decide) ?_
        refine gm_iret d_M_matches_60 rfl (by first | rfl | exact am_b_nar _) ?_
        exact ⟨by rw [fc_mch_nat hm hp hf ht]; first | (refine am_bt ?_; simp only [Bool.and_eq_true, decide_eq_true_eq]; omega) | (refine am_bf ?_; simp only [Bool.and_eq_false_iff, decide_eq_false_iff_not]; omega), rfl⟩
      · refine gm_iload_n d_M_matches_38 rfl ?_
        refine gm_bipush (v := nI 6) d_M_matches_39 (by decide) ?_
        refine gm_ishr d_M_matches_41 ?_
        rw [b3]
        first | refine gm_if_eqB (tgt := 55) d_M_matches_42 (by decide) (fun q6 => ?_) (fun q6 => ?_) | refine gm_if_eqN (tgt := 55) d_M_matches_42 (by decide) (by omega) (fun q6 => ?_) (fun q6 => ?_) | refine gm_if_eq (tgt := 55) d_M_matches_42 (by decide) (fun q6 => ?_) (fun q6 => ?_)
        · refine gm_iconst (v := nI 1) d_M_matches_55 (by decide) ?_
          refine gm_goto (tgt := 60) d_M_matches_56 (by decide) ?_
          refine gm_iret d_M_matches_60 rfl (by first | rfl | exact am_b_nar _) ?_
          exact ⟨by rw [fc_mch_nat hm hp hf ht]; first | (refine am_bt ?_; simp only [Bool.and_eq_true, decide_eq_true_eq]; omega) | (refine am_bf ?_; simp only [Bool.and_eq_false_iff, decide_eq_false_iff_not]; omega), rfl⟩
        · refine gm_iload_n d_M_matches_45 rfl ?_
          refine gm_bipush (v := nI 6) d_M_matches_46 (by decide) ?_
          refine gm_ishr d_M_matches_48 ?_
          refine gm_iload_n d_M_matches_49 rfl ?_
          refine gm_iconst (v := nI 1) d_M_matches_50 (by decide) ?_
          first | refine gm_iaddN d_M_matches_51 ?_ | refine gm_iadd d_M_matches_51 ?_
          rw [b3]
          first | refine gm_icmp_neN (tgt := 59) d_M_matches_52 (by decide) (by omega) (by omega) (fun q7 => ?_) (fun q7 => ?_) | refine gm_icmp_ne (tgt := 59) d_M_matches_52 (by decide) (fun q7 => ?_) (fun q7 => ?_)
          · refine gm_iconst (v := nI 0) d_M_matches_59 (by decide) ?_
            refine gm_iret d_M_matches_60 rfl (by first | rfl | exact am_b_nar _) ?_
            exact ⟨by rw [fc_mch_nat hm hp hf ht]; first | (refine am_bt ?_; simp only [Bool.and_eq_true, decide_eq_true_eq]; omega) | (refine am_bf ?_; simp only [Bool.and_eq_false_iff, decide_eq_false_iff_not]; omega), rfl⟩
          · refine gm_iconst (v := nI 1) d_M_matches_55 (by decide) ?_
            refine gm_goto (tgt := 60) d_M_matches_56 (by decide) ?_
            refine gm_iret d_M_matches_60 rfl (by first | rfl | exact am_b_nar _) ?_
            exact ⟨by rw [fc_mch_nat hm hp hf ht]; first | (refine am_bt ?_; simp only [Bool.and_eq_true, decide_eq_true_eq]; omega) | (refine am_bf ?_; simp only [Bool.and_eq_false_iff, decide_eq_false_iff_not]; omega), rfl⟩
  · refine gm_iload_n d_M_matches_7 rfl ?_
    refine gm_bipush (v := nI 7) d_M_matches_8 (by decide) ?_
    refine gm_iand d_M_matches_10 ?_
    refine gm_iload_n d_M_matches_11 rfl ?_
    refine gm_iconst (v := nI 1) d_M_matches_12 (by decide) ?_
    first | refine gm_iaddN d_M_matches_13 ?_ | refine gm_iadd d_M_matches_13 ?_
    rw [b1]
    first | refine gm_icmp_neN (tgt := 59) d_M_matches_14 (by decide) (by omega) (by omega) (fun q8 => ?_) (fun q8 => ?_) | refine gm_icmp_ne (tgt := 59) d_M_matches_14 (by decide) (fun q8 => ?_) (fun q8 => ?_)
    · refine gm_iconst (v := nI 0) d_M_matches_59 (by decide) ?_
      refine gm_iret d_M_matches_60 rfl (by first | rfl | exact am_b_nar _) ?_
      exact ⟨by rw [fc_mch_nat hm hp hf ht]; first | (refine am_bt ?_; simp only [Bool.and_eq_true, decide_eq_true_eq]; omega) | (refine am_bf ?_; simp only [Bool.and_eq_false_iff, decide_eq_false_iff_not]; omega), rfl⟩
    · refine gm_iload_n d_M_matches_17 rfl ?_
      refine gm_iconst (v := nI 3) d_M_matches_18 (by decide) ?_
      refine gm_ishr d_M_matches_19 ?_
      refine gm_bipush (v := nI 7) d_M_matches_20 (by decide) ?_
      refine gm_iand d_M_matches_22 ?_
      rw [b2]
      first | refine gm_if_eqB (tgt := 38) d_M_matches_23 (by decide) (fun q9 => ?_) (fun q9 => ?_) | refine gm_if_eqN (tgt := 38) d_M_matches_23 (by decide) (by omega) (fun q9 => ?_) (fun q9 => ?_) | refine gm_if_eq (tgt := 38) d_M_matches_23 (by decide) (fun q9 => ?_) (fun q9 => ?_)
      · refine gm_iload_n d_M_matches_38 rfl ?_
        refine gm_bipush (v := nI 6) d_M_matches_39 (by decide) ?_
        refine gm_ishr d_M_matches_41 ?_
        rw [b3]
        first | refine gm_if_eqB (tgt := 55) d_M_matches_42 (by decide) (fun q10 => ?_) (fun q10 => ?_) | refine gm_if_eqN (tgt := 55) d_M_matches_42 (by decide) (by omega) (fun q10 => ?_) (fun q10 => ?_) | refine gm_if_eq (tgt := 55) d_M_matches_42 (by decide) (fun q10 => ?_) (fun q10 => ?_)
        · refine gm_iconst (v := nI 1) d_M_matches_55 (by decide) ?_
          refine gm_goto (tgt := 60) d_M_matches_56 (by decide) ?_
          refine gm_iret d_M_matches_60 rfl (by first | rfl | exact am_b_nar _) ?_
          exact ⟨by rw [fc_mch_nat hm hp hf ht]; first | (refine am_bt ?_; simp only [Bool.and_eq_true, decide_eq_true_eq]; omega) | (refine am_bf ?_; simp only [Bool.and_eq_false_iff, decide_eq_false_iff_not]; omega), rfl⟩
        · refine gm_iload_n d_M_matches_45 rfl ?_
          refine gm_bipush (v := nI 6) d_M_matches_46 (by decide) ?_
          refine gm_ishr d_M_matches_48 ?_
          refine gm_iload_n d_M_matches_49 rfl ?_
          refine gm_iconst (v := nI 1) d_M_matches_50 (by decide) ?_
          first | refine gm_iaddN d_M_matches_51 ?_ | refine gm_iadd d_M_matches_51 ?_
          rw [b3]
          first | refine gm_icmp_neN (tgt := 59) d_M_matches_52 (by decide) (by omega) (by omega) (fun q11 => ?_) (fun q11 => ?_) | refine gm_icmp_ne (tgt := 59) d_M_matches_52 (by decide) (fun q11 => ?_) (fun q11 => ?_)
          · refine gm_iconst (v := nI 0) d_M_matches_59 (by decide) ?_
            refine gm_iret d_M_matches_60 rfl (by first | rfl | exact am_b_nar _) ?_
            exact ⟨by rw [fc_mch_nat hm hp hf ht]; first | (refine am_bt ?_; simp only [Bool.and_eq_true, decide_eq_true_eq]; omega) | (refine am_bf ?_; simp only [Bool.and_eq_false_iff, decide_eq_false_iff_not]; omega), rfl⟩
          · refine gm_iconst (v := nI 1) d_M_matches_55 (by decide) ?_
            refine gm_goto (tgt := 60) d_M_matches_56 (by decide) ?_
            refine gm_iret d_M_matches_60 rfl (by first | rfl | exact am_b_nar _) ?_
            exact ⟨by rw [fc_mch_nat hm hp hf ht]; first | (refine am_bt ?_; simp only [Bool.and_eq_true, decide_eq_true_eq]; omega) | (refine am_bf ?_; simp only [Bool.and_eq_false_iff, decide_eq_false_iff_not]; omega), rfl⟩
      · refine gm_iload_n d_M_matches_26 rfl ?_
        refine gm_iconst (v := nI 3) d_M_matches_27 (by decide) ?_
        refine gm_ishr d_M_matches_28 ?_
        refine gm_bipush (v := nI 7) d_M_matches_29 (by decide) ?_
        refine gm_iand d_M_matches_31 ?_
        refine gm_iload_n d_M_matches_32 rfl ?_
        refine gm_iconst (v := nI 1) d_M_matches_33 (by decide) ?_
        first | refine gm_iaddN d_M_matches_34 ?_ | refine gm_iadd d_M_matches_34 ?_
        rw [b2]
        first | refine gm_icmp_neN (tgt := 59) d_M_matches_35 (by decide) (by omega) (by omega) (fun q12 => ?_) (fun q12 => ?_) | refine gm_icmp_ne (tgt := 59) d_M_matches_35 (by decide) (fun q12 => ?_) (fun q12 => ?_)
        · refine gm_iconst (v := nI 0) d_M_matches_59 (by decide) ?_
          refine gm_iret d_M_matches_60 rfl (by first | rfl | exact am_b_nar _) ?_
          exact ⟨by rw [fc_mch_nat hm hp hf ht]; first | (refine am_bt ?_; simp only [Bool.and_eq_true, decide_eq_true_eq]; omega) | (refine am_bf ?_; simp only [Bool.and_eq_false_iff, decide_eq_false_iff_not]; omega), rfl⟩
        · refine gm_iload_n d_M_matches_38 rfl ?_
          refine gm_bipush (v := nI 6) d_M_matches_39 (by decide) ?_
          refine gm_ishr d_M_matches_41 ?_
          rw [b3]
          first | refine gm_if_eqB (tgt := 55) d_M_matches_42 (by decide) (fun q13 => ?_) (fun q13 => ?_) | refine gm_if_eqN (tgt := 55) d_M_matches_42 (by decide) (by omega) (fun q13 => ?_) (fun q13 => ?_) | refine gm_if_eq (tgt := 55) d_M_matches_42 (by decide) (fun q13 => ?_) (fun q13 => ?_)
          · refine gm_iconst (v := nI 1) d_M_matches_55 (by decide) ?_
            refine gm_goto (tgt := 60) d_M_matches_56 (by decide) ?_
            refine gm_iret d_M_matches_60 rfl (by first | rfl | exact am_b_nar _) ?_
            exact ⟨by rw [fc_mch_nat hm hp hf ht]; first | (refine am_bt ?_; simp only [Bool.and_eq_true, decide_eq_true_eq]; omega) | (refine am_bf ?_; simp only [Bool.and_eq_false_iff, decide_eq_false_iff_not]; omega), rfl⟩
          · refine gm_iload_n d_M_matches_45 rfl ?_
            refine gm_bipush (v := nI 6) d_M_matches_46 (by decide) ?_
            refine gm_ishr d_M_matches_48 ?_
            refine gm_iload_n d_M_matches_49 rfl ?_
            refine gm_iconst (v := nI 1) d_M_matches_50 (by decide) ?_
            first | refine gm_iaddN d_M_matches_51 ?_ | refine gm_iadd d_M_matches_51 ?_
            rw [b3]
            first | refine gm_icmp_neN (tgt := 59) d_M_matches_52 (by decide) (by omega) (by omega) (fun q14 => ?_) (fun q14 => ?_) | refine gm_icmp_ne (tgt := 59) d_M_matches_52 (by decide) (fun q14 => ?_) (fun q14 => ?_)
            · refine gm_iconst (v := nI 0) d_M_matches_59 (by decide) ?_
              refine gm_iret d_M_matches_60 rfl (by first | rfl | exact am_b_nar _) ?_
              exact ⟨by rw [fc_mch_nat hm hp hf ht]; first | (refine am_bt ?_; simp only [Bool.and_eq_true, decide_eq_true_eq]; omega) | (refine am_bf ?_; simp only [Bool.and_eq_false_iff, decide_eq_false_iff_not]; omega), rfl⟩
            · refine gm_iconst (v := nI 1) d_M_matches_55 (by decide) ?_
              refine gm_goto (tgt := 60) d_M_matches_56 (by decide) ?_
              refine gm_iret d_M_matches_60 rfl (by first | rfl | exact am_b_nar _) ?_
              exact ⟨by rw [fc_mch_nat hm hp hf ht]; first | (refine am_bt ?_; simp only [Bool.and_eq_true, decide_eq_true_eq]; omega) | (refine am_bf ?_; simp only [Bool.and_eq_false_iff, decide_eq_false_iff_not]; omega), rfl⟩
theorem rf_known (H : fr_rel ns room idle s r) (D : fc_iD ns room s) (x p : Int32) : gm_M (fr_P A) fr_X g y_M_known "(II)I" 2 43 [.ref (A 44), .int x, .int p] (fun v r' => v = some (.int (fc_known ns s x p)) ∧ r' = r) r := by
  refine gm_Mof (L0 := [some (.ref (A 44)), some (.int x), some (.int p)]) pl_M_known (am_k1 rfl (am_k1 rfl (am_k1 rfl am_k0))) (Nat.le_of_ble_eq_true rfl) rfl ?_
  refine gm_aload_n d_M_known_0 rfl (by first | exact am_rvR _ | exact am_rvN | assumption) ?_
  refine gm_iload_n d_M_known_1 rfl ?_
  refine gm_iload_n d_M_known_2 rfl ?_
  refine gm_cV (b := A 44) d_M_known_3 v_M_140 (vs := [.int x, .int p]) (st := []) rfl rfl (by decide) (Nat.le_of_ble_eq_true rfl) (fr_at _) (rf_isPort H.1.1 x p) ?_
  rintro v r1 ⟨rfl, hr1⟩
  subst r1
  first | refine gm_if_eqB (tgt := 24) d_M_known_6 (by decide) (fun q1 => ?_) (fun q1 => ?_) | refine gm_if_eqN (tgt := 24) d_M_known_6 (by decide) (by omega) (fun q1 => ?_) (fun q1 => ?_) | refine gm_if_eq (tgt := 24) d_M_known_6 (by decide) (fun q1 => ?_) (fun q1 => ?_)
  · refine gm_iconst (v := (-1)) d_M_known_24 (by decide) ?_
    refine gm_iret d_M_known_25 rfl rfl ?_
    first | exact ⟨by unfold fc_known; rw [if_neg (by rw [q1]; decide)], rfl⟩ | exact ⟨by unfold fc_known; rw [if_pos q1, fc_e_nat (by omega) hp, Int32.add_sub_cancel], rfl⟩
  · obtain ⟨i, p', hi, hp, rfl, rfl⟩ := fc_pt_nat D.1.2.1 q1
    have n5 := D.1.2.1
    have h28 : r.2 28 (4 * i + p') = fc_get s 3 0 (4 * i + p') + nI 1 := (H.2.2.2.2.2.2.2.1.1 _ (by omega)).1
    refine gm_aload_n d_M_known_9 rfl (by first | exact am_rvR _ | exact am_rvN | assumption) ?_
    refine fr_gA 28 d_M_known_10 f_M_80 (by decide) (by decide) ?_
    refine gm_iconst (v := nI 4) d_M_known_13 (by decide) ?_
    refine gm_iload_n d_M_known_14 rfl ?_
    first | refine gm_imulN d_M_known_15 ?_ | refine gm_imul d_M_known_15 ?_
    refine gm_iload_n d_M_known_16 rfl ?_
    first | refine gm_iaddN d_M_known_17 ?_ | refine gm_iadd d_M_known_17 ?_
    refine fr_aldv d_M_known_18 (by decide) rfl (show _ < 20 by omega) (by first | assumption | (simp only [fr_up_at, fr_up_s, fr_sc_at, fr_sc_a, Nat.reduceEqDiff, false_and, if_false, ite_false, reduceCtorEq]; first | assumption | rfl) | rfl) ?_
    refine gm_iconst (v := nI 1) d_M_known_19 (by decide) ?_
    first | refine gm_isubN d_M_known_20 (by omega) ?_ | refine gm_isub d_M_known_20 ?_
    refine gm_goto (tgt := 25) d_M_known_21 (by decide) ?_
    refine gm_iret d_M_known_25 rfl rfl ?_
    first | exact ⟨by unfold fc_known; rw [if_neg (by rw [q1]; decide)], rfl⟩ | exact ⟨by unfold fc_known; rw [if_pos q1, fc_e_nat (by omega) hp, Int32.add_sub_cancel], rfl⟩
theorem fr_host_eq (x : Int32) : (decide (0 ≤ x) && decide (x < nI (s 1).length)) = fc_hs s x := rfl
theorem rf_place (H : fr_rel ns room idle s r) (D : fc_iD ns room s) (x : Int32) : gm_M (fr_P A) fr_X g y_M_place "(I)I" 1 21 [.ref (A 44), .int x] (fun v r' => v = some (.int (fc_place s x)) ∧ r' = r) r := by
  refine gm_Mof (L0 := [some (.ref (A 44)), some (.int x)]) pl_M_place (am_k1 rfl (am_k1 rfl am_k0)) (Nat.le_of_ble_eq_true rfl) rfl ?_
  refine gm_aload_n d_M_place_0 rfl (by first | exact am_rvR _ | exact am_rvN | assumption) ?_
  refine gm_iload_n d_M_place_1 rfl ?_
  refine gm_cV (b := A 44) d_M_place_2 v_M_177 (vs := [.int x]) (st := []) rfl rfl (by decide) (Nat.le_of_ble_eq_true rfl) (fr_at _) (rf_isHost H.2.1.1 x) ?_
  rintro v r1 ⟨rfl, hr1⟩
  subst r1
  first | refine gm_if_eqB (tgt := 19) d_M_place_5 (by decide) (fun q1 => ?_) (fun q1 => ?_) | refine gm_if_eqN (tgt := 19) d_M_place_5 (by decide) (by omega) (fun q1 => ?_) (fun q1 => ?_) | refine gm_if_eq (tgt := 19) d_M_place_5 (by decide) (fun q1 => ?_) (fun q1 => ?_)
  · refine gm_iconst (v := (-1)) d_M_place_19 (by decide) ?_
    refine gm_iret d_M_place_20 rfl rfl ?_
    first | exact ⟨by unfold fc_place; rw [if_neg (by rw [← fr_host_eq, q1]; decide)], rfl⟩ | exact ⟨by unfold fc_place; rw [if_pos q1, nI_clamp (by omega), Int32.add_sub_cancel], rfl⟩
  · rw [fr_host_eq] at q1
    obtain ⟨k, hk, rfl⟩ := fc_hs_nat D.2.1.2.1 q1
    have h6 := D.2.1.2.1
    have h30 : r.2 30 k = fc_get s 5 0 k + nI 1 := H.2.2.2.2.2.2.2.1.2 k (by omega)
    refine gm_aload_n d_M_place_8 rfl (by first | exact am_rvR _ | exact am_rvN | assumption) ?_
    refine fr_gA 30 d_M_place_9 f_M_86 (by decide) (by decide) ?_
    refine gm_iload_n d_M_place_12 rfl ?_
    refine fr_aldv d_M_place_13 (by decide) rfl (show _ < 6 by omega) (by first | assumption | (simp only [fr_up_at, fr_up_s, fr_sc_at, fr_sc_a, Nat.reduceEqDiff, false_and, if_false, ite_false, reduceCtorEq]; first | assumption | rfl) | rfl) ?_
    refine gm_iconst (v := nI 1) d_M_place_14 (by decide) ?_
    first | refine gm_isubN d_M_place_15 (by omega) ?_ | refine gm_isub d_M_place_15 ?_
    refine gm_goto (tgt := 20) d_M_place_16 (by decide) ?_
    refine gm_iret d_M_place_20 rfl rfl ?_
    first | exact ⟨by unfold fc_place; rw [if_neg (by rw [← fr_host_eq, q1]; decide)], rfl⟩ | exact ⟨by unfold fc_place; rw [if_pos q1, nI_clamp (by omega), Int32.add_sub_cancel], rfl⟩
theorem am_w2 {w : Int32} (a : ¬ w < 0) (b : w ≤ nI 2) (c : ¬ w = 0) (d : ¬ w = nI 1) : w = 2 := by
  obtain ⟨k, hk, rfl⟩ := fc_rng (n := 2) (by omega) (by rw [Int32.lt_iff_toInt_lt] at a; rw [Int32.le_iff_toInt_le]; omega) b
  rcases (show k = 0 ∨ k = 1 ∨ k = 2 by omega) with rfl | rfl | rfl
  · exact absurd rfl c
  · exact absurd rfl d
  · rfl
theorem am_wo {w : Int32} (h : w < 0 ∨ ¬ w ≤ nI 2) : ¬ w = 0 ∧ ¬ w = 1 ∧ ¬ w = 2 := ⟨fun e => by subst e; revert h; decide, fun e => by subst e; revert h; decide, fun e => by subst e; revert h; decide⟩
theorem am_wgt {w : Int32} (h : nI 2 < w) : ¬ w ≤ nI 2 := fun z => by rw [Int32.lt_iff_toInt_lt] at h; rw [Int32.le_iff_toInt_le] at z; omega
theorem fc_taken_no {x w : Int32} (h : fc_hs s x = false) : fc_taken s x w = -1 := by unfold fc_taken; rw [if_neg (by rw [h]; decide)]
theorem fc_taken_eq {k : Nat} (hk : k < 1000) {w : Int32} (h : fc_hs s (nI k) = true) : fc_taken s (nI k) w = if w = 0 then fc_get s 1 k 3 else if w = 1 then fc_get s 1 k 4 else if w = 2 then fc_get s 1 k 5 else -1 := by unfold fc_taken; rw [if_pos h, nI_clamp (by omega)]
theorem rf_taken (H : fr_rel ns room idle s r) (D : fc_iD ns room s) (x w : Int32) : gm_M (fr_P A) fr_X g y_M_taken "(II)I" 1 21 [.ref (A 44), .int x, .int w] (fun v r' => v = some (.int (fc_taken s x w)) ∧ r' = r) r := by
  refine gm_Mof (L0 := [some (.ref (A 44)), some (.int x), some (.int w)]) pl_M_taken (am_k1 rfl (am_k1 rfl (am_k1 rfl am_k0))) (Nat.le_of_ble_eq_true rfl) rfl ?_
  refine gm_aload_n d_M_taken_0 rfl (by first | exact am_rvR _ | exact am_rvN | assumption) ?_
  refine gm_iload_n d_M_taken_1 rfl ?_
  refine gm_cV (b := A 44) d_M_taken_2 v_M_177 (vs := [.int x]) (st := []) rfl rfl (by decide) (Nat.le_of_ble_eq_true rfl) (fr_at _) (rf_isHost H.2.1.1 x) ?_
  rintro v r1 ⟨rfl, hr1⟩
  subst r1
  first | refine gm_if_eqB (tgt := 17) d_M_taken_5 (by decide) (fun q1 => ?_) (fun q1 => ?_) | refine gm_if_eqN (tgt := 17) d_M_taken_5 (by decide) (by omega) (fun q1 => ?_) (fun q1 => ?_) | refine gm_if_eq (tgt := 17) d_M_taken_5 (by decide) (fun q1 => ?_) (fun q1 => ?_)
  · refine gm_iconst (v := (-1)) d_M_taken_17 (by decide) ?_
    refine gm_iret d_M_taken_18 rfl rfl ?_
    first | (refine ⟨?_, rfl⟩; rw [fc_taken_no q1]; try rfl) | (refine ⟨?_, rfl⟩; rw [fc_taken_eq (show k < 1000 by omega) q1, if_neg (am_wo (Or.inl q2)).1, if_neg (am_wo (Or.inl q2)).2.1, if_neg (am_wo (Or.inl q2)).2.2]; try rfl) | (refine ⟨?_, rfl⟩; rw [fc_taken_eq (show k < 1000 by omega) q1, if_neg (am_wo (Or.inr q3)).1, if_neg (am_wo (Or.inr q3)).2.1, if_neg (am_wo (Or.inr q3)).2.2]; try rfl) | (refine ⟨?_, rfl⟩; rw [fc_taken_eq (show k < 1000 by omega) q1, if_pos q4]; try rfl) | (refine ⟨?_, rfl⟩; rw [fc_taken_eq (show k < 1000 by omega) q1, if_neg q4, if_pos (show w = 1 from q5)]; try rfl) | (refine ⟨?_, rfl⟩; rw [fc_taken_eq (show k < 1000 by omega) q1, if_neg q4, if_neg (show ¬ w = 1 from q5), if_pos (am_w2 q2 q3 q4 q5)]; try rfl)
  · rw [fr_host_eq] at q1
    obtain ⟨k, hk, rfl⟩ := fc_hs_nat D.2.1.2.1 q1
    have h6 := D.2.1.2.1
    have hr := List.getElem?_eq_getElem hk
    obtain ⟨-, h9, h10, h11⟩ := H.2.1.2.1 k _ hr
    have g3 := fc_get_row hr 3
    have g4 := fc_get_row hr 4
    have g5 := fc_get_row hr 5
    rw [← g3] at h9
    rw [← g4] at h10
    rw [← g5] at h11
    refine gm_iload_n d_M_taken_8 rfl ?_
    first | refine gm_if_ltN (tgt := 17) d_M_taken_9 (by decide) (by omega) (fun q2 => ?_) (fun q2 => ?_) | refine gm_if_lt (tgt := 17) d_M_taken_9 (by decide) (fun q2 => ?_) (fun q2 => ?_)
    · refine gm_iconst (v := (-1)) d_M_taken_17 (by decide) ?_
      refine gm_iret d_M_taken_18 rfl rfl ?_
      first | (refine ⟨?_, rfl⟩; rw [fc_taken_no q1]; try rfl) | (refine ⟨?_, rfl⟩; rw [fc_taken_eq (show k < 1000 by omega) q1, if_neg (am_wo (Or.inl q2)).1, if_neg (am_wo (Or.inl q2)).2.1, if_neg (am_wo (Or.inl q2)).2.2]; try rfl) | (refine ⟨?_, rfl⟩; rw [fc_taken_eq (show k < 1000 by omega) q1, if_neg (am_wo (Or.inr q3)).1, if_neg (am_wo (Or.inr q3)).2.1, if_neg (am_wo (Or.inr q3)).2.2]; try rfl) | (refine ⟨?_, rfl⟩; rw [fc_taken_eq (show k < 1000 by omega) q1, if_pos q4]; try rfl) | (refine ⟨?_, rfl⟩; rw [fc_taken_eq (show k < 1000 by omega) q1, if_neg q4, if_pos (show w = 1 from q5)]; try rfl) | (refine ⟨?_, rfl⟩; rw [fc_taken_eq (show k < 1000 by omega) q1, if_neg q4, if_neg (show ¬ w = 1 from q5), if_pos (am_w2 q2 q3 q4 q5)]; try rfl)
    · refine gm_iload_n d_M_taken_12 rfl ?_
      refine gm_iconst (v := nI 2) d_M_taken_13 (by decide) ?_
      first | refine gm_icmp_leN (tgt := 19) d_M_taken_14 (by decide) (by omega) (by omega) (fun q3 => ?_) (fun q3 => ?_) | refine gm_icmp_le (tgt := 19) d_M_taken_14 (by decide) (fun q3 => ?_) (fun q3 => ?_)
      · refine gm_iload_n d_M_taken_19 rfl ?_
        first | refine gm_if_neB (tgt := 32) d_M_taken_20 (by decide) (fun q4 => ?_) (fun q4 => ?_) | refine gm_if_neN (tgt := 32) d_M_taken_20 (by decide) (by omega) (fun q4 => ?_) (fun q4 => ?_) | refine gm_if_ne (tgt := 32) d_M_taken_20 (by decide) (fun q4 => ?_) (fun q4 => ?_)
        · refine gm_iload_n d_M_taken_32 rfl ?_
          refine gm_iconst (v := nI 1) d_M_taken_33 (by decide) ?_
          first | refine gm_icmp_neN (tgt := 46) d_M_taken_34 (by decide) (by omega) (by omega) (fun q5 => ?_) (fun q5 => ?_) | refine gm_icmp_ne (tgt := 46) d_M_taken_34 (by decide) (fun q5 => ?_) (fun q5 => ?_)
          · refine gm_aload_n d_M_taken_46 rfl (by first | exact am_rvR _ | exact am_rvN | assumption) ?_
            refine fr_gA 11 d_M_taken_47 f_M_29 (by decide) (by decide) ?_
            refine gm_iload_n d_M_taken_50 rfl ?_
            refine fr_aldv d_M_taken_51 (by decide) rfl (show _ < 6 by omega) (by first | assumption | (simp only [fr_up_at, fr_up_s, fr_sc_at, fr_sc_a, Nat.reduceEqDiff, false_and, if_false, ite_false, reduceCtorEq]; first | assumption | rfl) | rfl) ?_
            refine gm_iret d_M_taken_52 rfl rfl ?_
            first | (refine ⟨?_, rfl⟩; rw [fc_taken_no q1]; try rfl) | (refine ⟨?_, rfl⟩; rw [fc_taken_eq (show k < 1000 by omega) q1, if_neg (am_wo (Or.inl q2)).1, if_neg (am_wo (Or.inl q2)).2.1, if_neg (am_wo (Or.inl q2)).2.2]; try rfl) | (refine ⟨?_, rfl⟩; rw [fc_taken_eq (show k < 1000 by omega) q1, if_neg (am_wo (Or.inr q3)).1, if_neg (am_wo (Or.inr q3)).2.1, if_neg (am_wo (Or.inr q3)).2.2]; try rfl) | (refine ⟨?_, rfl⟩; rw [fc_taken_eq (show k < 1000 by omega) q1, if_pos q4]; try rfl) | (refine ⟨?_, rfl⟩; rw [fc_taken_eq (show k < 1000 by omega) q1, if_neg q4, if_pos (show w = 1 from q5)]; try rfl) | (refine ⟨?_, rfl⟩; rw [fc_taken_eq (show k < 1000 by omega) q1, if_neg q4, if_neg (show ¬ w = 1 from q5), if_pos (am_w2 q2 q3 q4 q5)]; try rfl)
          · refine gm_aload_n d_M_taken_37 rfl (by first | exact am_rvR _ | exact am_rvN | assumption) ?_
            refine fr_gA 10 d_M_taken_38 f_M_26 (by decide) (by decide) ?_
            refine gm_iload_n d_M_taken_41 rfl ?_
            refine fr_aldv d_M_taken_42 (by decide) rfl (show _ < 6 by omega) (by first | assumption | (simp only [fr_up_at, fr_up_s, fr_sc_at, fr_sc_a, Nat.reduceEqDiff, false_and, if_false, ite_false, reduceCtorEq]; first | assumption | rfl) | rfl) ?_
            refine gm_goto (tgt := 52) d_M_taken_43 (by decide) ?_
            refine gm_iret d_M_taken_52 rfl rfl ?_
            first | (refine ⟨?_, rfl⟩; rw [fc_taken_no q1]; try rfl) | (refine ⟨?_, rfl⟩; rw [fc_taken_eq (show k < 1000 by omega) q1, if_neg (am_wo (Or.inl q2)).1, if_neg (am_wo (Or.inl q2)).2.1, if_neg (am_wo (Or.inl q2)).2.2]; try rfl) | (refine ⟨?_, rfl⟩; rw [fc_taken_eq (show k < 1000 by omega) q1, if_neg (am_wo (Or.inr q3)).1, if_neg (am_wo (Or.inr q3)).2.1, if_neg (am_wo (Or.inr q3)).2.2]; try rfl) | (refine ⟨?_, rfl⟩; rw [fc_taken_eq (show k < 1000 by omega) q1, if_pos q4]; try rfl) | (refine ⟨?_, rfl⟩; rw [fc_taken_eq (show k < 1000 by omega) q1, if_neg q4, if_pos (show w = 1 from q5)]; try rfl) | (refine ⟨?_, rfl⟩; rw [fc_taken_eq (show k < 1000 by omega) q1, if_neg q4, if_neg (show ¬ w = 1 from q5), if_pos (am_w2 q2 q3 q4 q5)]; try rfl)
        · refine gm_aload_n d_M_taken_23 rfl (by first | exact am_rvR _ | exact am_rvN | assumption) ?_
          refine fr_gA 9 d_M_taken_24 f_M_23 (by decide) (by decide) ?_
          refine gm_iload_n d_M_taken_27 rfl ?_
          refine fr_aldv d_M_taken_28 (by decide) rfl (show _ < 6 by omega) (by first | assumption | (simp only [fr_up_at, fr_up_s, fr_sc_at, fr_sc_a, Nat.reduceEqDiff, false_and, if_false, ite_false, reduceCtorEq]; first | assumption | rfl) | rfl) ?_
          refine gm_goto (tgt := 52) d_M_taken_29 (by decide) ?_
          refine gm_iret d_M_taken_52 rfl rfl ?_
          first | (refine ⟨?_, rfl⟩; rw [fc_taken_no q1]; try rfl) | (refine ⟨?_, rfl⟩; rw [fc_taken_eq (show k < 1000 by omega) q1, if_neg (am_wo (Or.inl q2)).1, if_neg (am_wo (Or.inl q2)).2.1, if_neg (am_wo (Or.inl q2)).2.2]; try rfl) | (refine ⟨?_, rfl⟩; rw [fc_taken_eq (show k < 1000 by omega) q1, if_neg (am_wo (Or.inr q3)).1, if_neg (am_wo (Or.inr q3)).2.1, if_neg (am_wo (Or.inr q3)).2.2]; try rfl) | (refine ⟨?_, rfl⟩; rw [fc_taken_eq (show k < 1000 by omega) q1, if_pos q4]; try rfl) | (refine ⟨?_, rfl⟩; rw [fc_taken_eq (show k < 1000 by omega) q1, if_neg q4, if_pos (show w = 1 from q5)]; try rfl) | (refine ⟨?_, rfl⟩; rw [fc_taken_eq (show k < 1000 by omega) q1, if_neg q4, if_neg (show ¬ w = 1 from q5), if_pos (am_w2 q2 q3 q4 q5)]; try rfl)
      · refine gm_iconst (v := (-1)) d_M_taken_17 (by decide) ?_
        refine gm_iret d_M_taken_18 rfl rfl ?_
        first | (refine ⟨?_, rfl⟩; rw [fc_taken_no q1]; try rfl) | (refine ⟨?_, rfl⟩; rw [fc_taken_eq (show k < 1000 by omega) q1, if_neg (am_wo (Or.inl q2)).1, if_neg (am_wo (Or.inl q2)).2.1, if_neg (am_wo (Or.inl q2)).2.2]; try rfl) | (refine ⟨?_, rfl⟩; rw [fc_taken_eq (show k < 1000 by omega) q1, if_neg (am_wo (Or.inr q3)).1, if_neg (am_wo (Or.inr q3)).2.1, if_neg (am_wo (Or.inr q3)).2.2]; try rfl) | (refine ⟨?_, rfl⟩; rw [fc_taken_eq (show k < 1000 by omega) q1, if_pos q4]; try rfl) | (refine ⟨?_, rfl⟩; rw [fc_taken_eq (show k < 1000 by omega) q1, if_neg q4, if_pos (show w = 1 from q5)]; try rfl) | (refine ⟨?_, rfl⟩; rw [fc_taken_eq (show k < 1000 by omega) q1, if_neg q4, if_neg (show ¬ w = 1 from q5), if_pos (am_w2 q2 q3 q4 q5)]; try rfl)
end REI
