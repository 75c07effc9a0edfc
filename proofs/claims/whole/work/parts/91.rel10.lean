/-! put, obey: what they come to -/
section INW
variable {ns room idle : Nat}
variable {own : Int32 → Int32 × Int32} {W : Nat}
theorem fc_cut_none {s : fc_S} {i : Nat} {f t : Int32} (h : fc_rix s i f t = none) : fc_cut s i f t = s := by unfold fc_cut; rw [h]
theorem fc_cut_some {s : fc_S} {i k : Nat} {f t : Int32} (h : fc_rix s i f t = some k) : fc_cut s i f t = fc_del s (20 + i) k := by unfold fc_cut; rw [h]
theorem fc_putr_full {s : fc_S} {i : Nat} {f t p : Int32} (h : fc_rix s i f t = none) (hl : room ≤ (s (20 + i)).length) : fc_putr room s i f t p = fc_add s (40 + i) [3, -1, f, t, 0] := by unfold fc_putr fc_len; rw [fc_cut_none h, if_pos hl]
theorem fc_putr_new {s : fc_S} {i : Nat} {f t p : Int32} (h : fc_rix s i f t = none) (hl : ¬ room ≤ (s (20 + i)).length) : fc_putr room s i f t p = fc_add s (20 + i) [f, t, p, fc_get s 0 0 0, fc_get s 0 0 0, 0] := by unfold fc_putr fc_len; rw [fc_cut_none h, if_neg hl]; rfl
theorem fc_putr_old {s : fc_S} {i k : Nat} {f t p : Int32} (h : fc_rix s i f t = some k) (hl : (s (20 + i)).length ≤ room) : fc_putr room s i f t p = fc_add (fc_del s (20 + i) k) (20 + i) [f, t, p, fc_get s 0 0 0, fc_get s 0 0 0, 0] := by
  have hk := fc_rix_some h
  unfold fc_putr fc_len
  rw [fc_cut_some h, if_neg]
  · rfl
  · rw [fc_del_same, List.length_eraseIdx, if_pos hk]; omega
theorem fr_pairE (f t : Nat) : nI 6 * nI f + nI t = nI (6 * f + t) := by rw [pk_mul, nI_add]
theorem fc_obey_no {s : fc_S} {x : Int32} (h : fc_sw ns x = false) : fc_obey ns room s x = (-1, s) := by unfold fc_obey; rw [h]; rfl
theorem fc_obey_nil {s : fc_S} (n5 : ns ≤ 5) {i : Nat} (hi : i < ns) (h : fc_sw ns (nI i) = true) (hl : (s (30 + i)).length = 0) : fc_obey ns room s (nI i) = (-1, s) := by
  unfold fc_obey
  rw [h, nI_clamp (by omega), List.eq_nil_of_length_eq_zero hl]
  rfl
theorem fc_obey_eq {s : fc_S} (n5 : ns ≤ 5) {i : Nat} (hi : i < ns) (h : fc_sw ns (nI i) = true) {r : List Int32} {rest : List (List Int32)} (hr : s (30 + i) = r :: rest) : fc_obey ns room s (nI i) = (r.getD 0 0, fc_does room (fc_del s (30 + i) 0) i r) := by
  unfold fc_obey fc_get
  rw [h, nI_clamp (by omega), hr]
  rfl
theorem fc_obey_1 {s : fc_S} (n5 : ns ≤ 5) {i : Nat} (hi : i < ns) (h : fc_sw ns (nI i) = true) {r : List Int32} {rest : List (List Int32)} (hr : s (30 + i) = r :: rest) : (fc_obey ns room s (nI i)).1 = r.getD 0 0 := by rw [fc_obey_eq n5 hi h hr]
theorem fc_obey_2 {s : fc_S} (n5 : ns ≤ 5) {i : Nat} (hi : i < ns) (h : fc_sw ns (nI i) = true) {r : List Int32} {rest : List (List Int32)} (hr : s (30 + i) = r :: rest) : (fc_obey ns room s (nI i)).2 = fc_does room (fc_del s (30 + i) 0) i r := by rw [fc_obey_eq n5 hi h hr]
theorem fr_rel.otake {s : fc_S} {r : fr_S} (H : fr_rel ns room idle s r) (D : fc_iD ns room s) {i : Nat} (hi : i < ns) : fr_rel ns room idle (fc_del s (30 + i) 0) (fr_take r (2 * i) (s (30 + i)).length) := by
  have := H.ltake D.1.2.1 D.l60 (l := 2 * i) (by omega)
  rw [fr_lc_o] at this
  exact this
theorem fr_rel.qtake {s : fc_S} {r : fr_S} (H : fr_rel ns room idle s r) (D : fc_iD ns room s) {i : Nat} (hi : i < ns) : fr_rel ns room idle (fc_del s (40 + i) 0) (fr_take r (2 * i + 1) (s (40 + i)).length) := by
  have := H.ltake D.1.2.1 D.l60 (l := 2 * i + 1) (by omega)
  rw [fr_lc_q] at this
  exact this
theorem fr_rel.oitem {s : fc_S} {r : fr_S} (H : fr_rel ns room idle s r) {i : Nat} (hi : i < ns) {row : List Int32} {rest : List (List Int32)} (hr : s (30 + i) = row :: rest) (n : Nat) {j : Nat} (hj : j < 5) : (fr_take r (2 * i) n).2 27 j = (fr_eo row).getD j 0 := by
  rw [← fr_en_o i]
  exact H.2.2.2.2.2.2.1.item (by omega) (by rw [fr_lc_o, hr]; rfl) hj n
theorem fr_rel.qitem {s : fc_S} {r : fr_S} (H : fr_rel ns room idle s r) {i : Nat} (hi : i < ns) {row : List Int32} {rest : List (List Int32)} (hr : s (40 + i) = row :: rest) (n : Nat) {j : Nat} (hj : j < 5) : (fr_take r (2 * i + 1) n).2 27 j = (fr_er row).getD j 0 := by
  rw [← fr_en_q i]
  exact H.2.2.2.2.2.2.1.item (by omega) (by rw [fr_lc_q, hr]; rfl) hj n
theorem fc_outs_s (s : fc_S) (i : Nat) (bits : Int32) (row : List Int32) (p : Nat) : fc_outs s i bits row (p + 1) = if bits >>> nI p &&& 1 = 1 then fc_out (fc_outs s i bits row p) (4 * i + p) row else fc_outs s i bits row p := rfl
theorem fc_prbs_s (s : fc_S) (i p : Nat) : fc_prbs s i (p + 1) = if fc_get (fc_prbs s i p) (100 + (4 * i + p)) 0 1 ≠ -1 then fc_out (fc_prbs s i p) (4 * i + p) [-1, nI (4 * i + p), 0] else fc_prbs s i p := by
  show (if _ then _ else _) = _
  by_cases h : fc_get (fc_prbs s i p) (100 + (4 * i + p)) 0 1 = -1
  · rw [if_neg (by rw [h]; decide), if_neg (fun z => z h)]
  · rw [if_pos (by rw [bne_iff_ne]; exact h), if_pos h]
end INW
