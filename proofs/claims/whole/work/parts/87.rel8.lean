/-! guards and rules: what comes of a frame -/
section INU
variable {ns room idle : Nat}
variable {own : Int32 → Int32 × Int32} {W : Nat}
theorem fc_rules_none {s : fc_S} {i : Nat} {p f t nr : Int32} (h : fc_rix s i f t = none) : fc_rules s i p f t nr = fc_slight s i [0, p, f, t, nr] := by unfold fc_rules; rw [h]
theorem fc_rules_some {s : fc_S} {i k p' : Nat} {p f t nr a b m l u : Int32} (h : fc_rix s i f t = some k) (hr : (s (20 + i))[k]? = some [a, b, nI p', m, l, u]) (hp : p' < 1000) : fc_rules s i p f t nr = fc_out (fc_up s (20 + i) ((s (20 + i)).set k [a, b, nI p', m, fc_get s 0 0 0, u + nI 1])) (4 * i + p') [f, t, nr] := by
  unfold fc_rules
  rw [h]
  show fc_out _ _ _ = _
  rw [fc_put2 hr, fc_get_row hr, fc_get_row hr]
  show fc_out _ (4 * i + (nI p').toNatClampNeg) _ = _
  rw [nI_clamp (by omega)]
  rfl
theorem fc_bst_s (rows : List (List Int32)) (p f t : Int32) (k : Nat) : fc_bst rows p f t (k + 1) = match fc_bst rows p f t k with | none => if fc_mch ((rows.getD k []).getD 1 0) p f t then some k else none | some b => if decide ((rows.getD b []).getD 0 0 < (rows.getD k []).getD 0 0) && fc_mch ((rows.getD k []).getD 1 0) p f t then some k else some b := rfl
theorem fc_row_at {rows : List (List Int32)} {k : Nat} {row : List Int32} (h : rows[k]? = some row) : rows.getD k [] = row := by rw [List.getD_eq_getElem?_getD, h]; rfl
theorem fc_bst_n0 {rows : List (List Int32)} {p f t m : Int32} {k : Nat} {row : List Int32} (h : rows[k]? = some row) (hm : row.getD 1 0 = m) (hb : fc_bst rows p f t k = none) (hq : fc_mch m p f t = false) : fc_bst rows p f t (k + 1) = none := by
  rw [fc_bst_s, hb, fc_row_at h, hm]
  show (if _ then _ else _) = _
  rw [hq]
  rfl
theorem fc_bst_n1 {rows : List (List Int32)} {p f t m : Int32} {k : Nat} {row : List Int32} (h : rows[k]? = some row) (hm : row.getD 1 0 = m) (hb : fc_bst rows p f t k = none) (hq : fc_mch m p f t = true) : fc_bst rows p f t (k + 1) = some k := by
  rw [fc_bst_s, hb, fc_row_at h, hm]
  show (if _ then _ else _) = _
  rw [hq]
  rfl
theorem fc_bst_s0 {rows : List (List Int32)} {p f t m : Int32} {k b pb pk : Nat} {row rowb : List Int32} (h : rows[k]? = some row) (hm : row.getD 1 0 = m) (hb : fc_bst rows p f t k = some b) (hrb : rows[b]? = some rowb) (e1 : rowb.getD 0 0 = nI pb) (e2 : row.getD 0 0 = nI pk) (h1 : pb < 1000) (h2 : pk < 1000) (hq : fc_mch m p f t = false ∨ pk ≤ pb) : fc_bst rows p f t (k + 1) = some b := by
  rw [fc_bst_s, hb]
  show (if (decide ((rows.getD b []).getD 0 0 < (rows.getD k []).getD 0 0) && fc_mch ((rows.getD k []).getD 1 0) p f t) = true then some k else some b) = _
  rw [fc_row_at h, fc_row_at hrb, hm, e1, e2]
  rw [if_neg]
  rw [Bool.and_eq_true, decide_eq_true_eq, nI_ltI (by omega) (by omega)]
  rintro ⟨z1, z2⟩
  rcases hq with hq | hq
  · rw [hq] at z2; cases z2
  · omega
theorem fc_bst_s1 {rows : List (List Int32)} {p f t m : Int32} {k b pb pk : Nat} {row rowb : List Int32} (h : rows[k]? = some row) (hm : row.getD 1 0 = m) (hb : fc_bst rows p f t k = some b) (hrb : rows[b]? = some rowb) (e1 : rowb.getD 0 0 = nI pb) (e2 : row.getD 0 0 = nI pk) (h1 : pb < 1000) (h2 : pk < 1000) (hq : fc_mch m p f t = true) (hp : pb < pk) : fc_bst rows p f t (k + 1) = some k := by
  rw [fc_bst_s, hb]
  show (if (decide ((rows.getD b []).getD 0 0 < (rows.getD k []).getD 0 0) && fc_mch ((rows.getD k []).getD 1 0) p f t) = true then some k else some b) = _
  rw [fc_row_at h, fc_row_at hrb, hm, e1, e2]
  rw [if_pos]
  rw [Bool.and_eq_true, decide_eq_true_eq, nI_ltI (by omega) (by omega)]
  exact ⟨hp, hq⟩
theorem fc_in_none {s : fc_S} {i : Nat} {p f t nr : Int32} (h : fc_bst (s (10 + i)) p f t (s (10 + i)).length = none) : fc_in s i p f t nr = fc_rules s i p f t nr := by
  unfold fc_in fc_len
  rw [h]
theorem fc_in_some {s : fc_S} {i k v : Nat} {p f t nr a m y : Int32} (h : fc_bst (s (10 + i)) p f t (s (10 + i)).length = some k) (hr : (s (10 + i))[k]? = some [a, m, nI v, y]) (hv : v < 1000) : fc_in s i p f t nr = if v < 4 then fc_out (fc_up s (10 + i) ((s (10 + i)).set k [a, m, nI v, y + nI 1])) (4 * i + v) [f, t, nr] else if v = 5 then fc_rules (fc_up s (10 + i) ((s (10 + i)).set k [a, m, nI v, y + nI 1])) i p f t nr else if v = 6 then fc_slight (fc_up s (10 + i) ((s (10 + i)).set k [a, m, nI v, y + nI 1])) i [0, p, f, t, nr] else fc_up s (10 + i) ((s (10 + i)).set k [a, m, nI v, y + nI 1]) := by
  unfold fc_in fc_len
  rw [h]
  show (if _ then _ else if _ then _ else if _ then _ else _) = _
  rw [fc_put1 hr, fc_get_row hr, fc_get_row hr]
  show (if nI v < 4 then fc_out _ (4 * i + (nI v).toNatClampNeg) _ else if nI v = 5 then _ else if nI v = 6 then _ else _) = _
  rw [nI_clamp (by omega)]
  have e4 : (nI v < 4) = (v < 4) := propext (nI_ltI (a := v) (b := 4) (by omega) (by omega))
  have e5 : (nI v = 5) = (v = 5) := propext (nI_eq (a := v) (b := 5) (by omega) (by omega))
  have e6 : (nI v = 6) = (v = 6) := propext (nI_eq (a := v) (b := 6) (by omega) (by omega))
  simp only [e4, e5, e6]
  rfl
theorem fc_iD.gr {s : fc_S} (D : fc_iD ns room s) {i k : Nat} (hi : i < ns) (hk : k < (s (10 + i)).length) : ∃ (p m v : Nat) (h : Int32), p ≤ 9 ∧ m ≤ 511 ∧ v ≤ 6 ∧ (s (10 + i))[k]? = some [nI p, nI m, nI v, h] := by
  obtain ⟨p, m, v, h, a, b, c, d⟩ := (D.2.2.2.2.1 i hi).2 _ (List.getElem_mem hk)
  exact ⟨p, m, v, h, a, b, c, by rw [List.getElem?_eq_getElem hk, d]⟩
theorem fc_iD.rr {s : fc_S} (D : fc_iD ns room s) {i k : Nat} (hi : i < ns) (hk : k < (s (20 + i)).length) : ∃ (f t p : Nat) (m l u : Int32), f < 6 ∧ t < 6 ∧ p < 4 ∧ (s (20 + i))[k]? = some [nI f, nI t, nI p, m, l, u] := by
  obtain ⟨f, t, p, m, l, u, a, b, c, d⟩ := (D.2.2.2.2.2.1 i hi).2 _ (List.getElem_mem hk)
  exact ⟨f, t, p, m, l, u, a, b, c, by rw [List.getElem?_eq_getElem hk, d]⟩
theorem fc_iD.q59 {s : fc_S} (D : fc_iD ns room s) {i : Nat} (hi : i < ns) : (s (40 + i)).length < 60 := Nat.lt_succ_of_le (D.2.2.2.2.2.2.1 i hi).2.1
theorem fc_iD.o59 {s : fc_S} (D : fc_iD ns room s) {i : Nat} (hi : i < ns) : (s (30 + i)).length < 60 := Nat.lt_succ_of_le (D.2.2.2.2.2.2.1 i hi).1.1
end INU
