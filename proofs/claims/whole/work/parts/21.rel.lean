/-! the reference's numbers stand for the rows -/
/-- an order, a report, as the reference writes it -/
def fr_eo (row : List Int32) : List Int32 :=
  if row.getD 0 0 = 0 then [nI 0, nI 6 * row.getD 2 0 + row.getD 3 0, row.getD 1 0, nI 0, nI 0]
  else if row.getD 0 0 = 1 then [nI 1, nI 6 * row.getD 2 0 + row.getD 3 0, nI 0, nI 0, nI 0]
  else if row.getD 0 0 = 2 then [nI 2, row.getD 1 0, nI 0, nI 0, nI 0]
  else if row.getD 0 0 = 3 then [nI 3, row.getD 1 0, row.getD 2 0, row.getD 3 0, row.getD 4 0]
  else if row.getD 0 0 = 4 then [nI 4, row.getD 2 0, row.getD 3 0, row.getD 4 0, nI 0]
  else [nI 5, nI 0, nI 0, nI 0, nI 0]
def fr_er (row : List Int32) : List Int32 :=
  if row.getD 0 0 = 0 then [nI 0, row.getD 1 0, row.getD 2 0, row.getD 3 0, row.getD 4 0]
  else if row.getD 0 0 = 1 then [nI 1, row.getD 1 0, row.getD 2 0, nI 0, nI 0]
  else if row.getD 0 0 = 2 then [nI 2, row.getD 1 0, nI 0, nI 0, nI 0]
  else if row.getD 0 0 = 3 then [nI 3, nI 6 * row.getD 2 0 + row.getD 3 0, nI 0, nI 0, nI 0]
  else if row.getD 0 0 = 4 then [nI 4, nI 6 * row.getD 2 0 + row.getD 3 0, nI 0, nI 0, nI 0]
  else [nI 5, row.getD 1 0, nI 0, nI 0, nI 0]
/-- which rows the reference's list l holds, and how -/
def fr_lc (l : Nat) : Nat := if l % 2 = 0 then 30 + l / 2 else 40 + l / 2
def fr_en (l : Nat) (row : List Int32) : List Int32 := if l % 2 = 0 then fr_eo row else fr_er row
def fr_rL (ns : Nat) (s : fc_S) (a25 a26 : Nat → Int32) : Prop := ∀ l, l < 2 * ns → a25 l = nI (s (fr_lc l)).length ∧ ∀ (k : Nat) (row : List Int32), (s (fr_lc l))[k]? = some row → ∀ j, j < 5 → a26 (300 * l + 5 * k + j) = (fr_en l row).getD j 0
def fr_rP (ns : Nat) (s : fc_S) (a4 a5 a6 : Nat → Int32) : Prop := ∀ e, e < 4 * ns → a6 e = fc_get s (100 + e) 0 2 ∧ (fc_get s (100 + e) 0 0 = -1 → fc_get s (100 + e) 0 1 = -1 → a4 e = nI 0) ∧ (fc_get s (100 + e) 0 0 ≠ -1 → a4 e = nI 1 ∧ a5 e = fc_get s (100 + e) 0 0) ∧ (fc_get s (100 + e) 0 0 = -1 → fc_get s (100 + e) 0 1 ≠ -1 → a4 e = nI 2 ∧ a5 e = fc_get s (100 + e) 0 1)
def fr_rW (ns : Nat) (s : fc_S) (a12 a13 : Nat → Int32) : Prop := ∀ e, e < 4 * ns → a12 e = nI (s (200 + e)).length ∧ ∀ (k : Nat) (row : List Int32), (s (200 + e))[k]? = some row → ∀ j, j < 3 → a13 (18 * e + 3 * k + j) = row.getD j 0
def fr_rG (ns : Nat) (s : fc_S) (a14 a15 a16 a17 a18 : Nat → Int32) : Prop := ∀ i, i < ns → a14 i = nI (s (10 + i)).length ∧ ∀ (k : Nat) (row : List Int32), (s (10 + i))[k]? = some row → a15 (4 * i + k) = row.getD 0 0 ∧ a16 (4 * i + k) = row.getD 1 0 ∧ a17 (4 * i + k) = row.getD 2 0 ∧ a18 (4 * i + k) = row.getD 3 0
def fr_rR (ns : Nat) (s : fc_S) (a19 a20 a21 a22 a23 a24 : Nat → Int32) : Prop := ∀ i, i < ns → a19 i = nI (s (20 + i)).length ∧ ∀ (k : Nat) (row : List Int32), (s (20 + i))[k]? = some row → a20 (8 * i + k) = nI 6 * row.getD 0 0 + row.getD 1 0 ∧ a21 (8 * i + k) = row.getD 2 0 ∧ a22 (8 * i + k) = row.getD 5 0 ∧ a23 (8 * i + k) = row.getD 3 0 ∧ a24 (8 * i + k) = row.getD 4 0
def fr_rH (s : fc_S) (c7 : Int32) (a8 a9 a10 a11 : Nat → Int32) : Prop := c7 = nI (s 1).length ∧ (∀ (h : Nat) (row : List Int32), (s 1)[h]? = some row → a8 h = nI 4 * row.getD 1 0 + row.getD 2 0 ∧ a9 h = row.getD 3 0 ∧ a10 h = row.getD 4 0 ∧ a11 h = row.getD 5 0) ∧ ∀ h, (s 1).length ≤ h → h < 6 → a9 h = nI 0 ∧ a10 h = nI 0
def fr_rO (ns : Nat) (s : fc_S) (a28 a29 a30 : Nat → Int32) : Prop := (∀ e, e < 4 * ns → a28 e = fc_get s 3 0 e + nI 1 ∧ a29 e = fc_get s 4 0 e) ∧ ∀ h, h < 6 → a30 h = fc_get s 5 0 h + nI 1
def fr_wc (e : Int32) : Int32 := nI (5 * (e.toNatClampNeg / 4) + e.toNatClampNeg % 4)
def fr_rK (s : fc_S) (c31 c32 : Int32) (a33 a34 a35 a36 a37 a38 a39 a40 a41 : Nat → Int32) : Prop := c31 = fc_get s 2 0 0 ∧ c32 = nI (s 7).length ∧ ∀ (c : Nat) (row : List Int32), (s 7)[c]? = some row →
  a33 c = nI 6 * row.getD 0 0 + row.getD 1 0 ∧ a34 c = row.getD 2 0 ∧ a35 c = row.getD 3 0 ∧ (row.getD 2 0 = 1 → a36 c = row.getD 4 0) ∧ a37 c = row.getD 5 0 ∧ a38 c = nI (row.drop 8).length ∧ (∀ (k : Nat) (e : Int32), (row.drop 8)[k]? = some e → a39 (5 * c + k) = fr_wc e) ∧ a40 c = row.getD 6 0 ∧ a41 c = row.getD 7 0
def fr_rel (ns room idle : Nat) (s : fc_S) (r : fr_S) : Prop :=
  (r.1 0 = nI ns ∧ r.1 1 = nI room ∧ r.1 2 = nI idle ∧ r.1 3 = fc_get s 0 0 0) ∧ fr_rH s (r.1 7) (r.2 8) (r.2 9) (r.2 10) (r.2 11) ∧ fr_rP ns s (r.2 4) (r.2 5) (r.2 6) ∧ fr_rW ns s (r.2 12) (r.2 13) ∧ fr_rG ns s (r.2 14) (r.2 15) (r.2 16) (r.2 17) (r.2 18) ∧ fr_rR ns s (r.2 19) (r.2 20) (r.2 21) (r.2 22) (r.2 23) (r.2 24) ∧ fr_rL ns s (r.2 25) (r.2 26) ∧ fr_rO ns s (r.2 28) (r.2 29) (r.2 30) ∧
  fr_rK s (r.1 31) (r.1 32) (r.2 33) (r.2 34) (r.2 35) (r.2 36) (r.2 37) (r.2 38) (r.2 39) (r.2 40) (r.2 41)
/-! what always holds of the rows: their shapes and ranges -/
def fc_iP (ns : Nat) (s : fc_S) : Prop := ∀ e, e < 4 * ns → ∃ h o u : Int32, s (100 + e) = [[h, o, u]] ∧ (h = -1 ∨ ∃ k, k < (s 1).length ∧ h = nI k) ∧ (o = -1 ∨ ∃ m, m < 4 * ns ∧ o = nI m) ∧ (h = -1 ∨ o = -1) ∧ (u = 0 ∨ u = 1)
def fc_frm (ns : Nat) (row : List Int32) : Prop := (∃ (f t : Nat) (n : Int32), f < 6 ∧ t < 6 ∧ row = [nI f, nI t, n]) ∨ ∃ o, o < 4 * ns ∧ row = [-1, nI o, 0]
def fc_iW (ns : Nat) (s : fc_S) : Prop := ∀ e, e < 4 * ns → (s (200 + e)).length ≤ 6 ∧ ∀ row ∈ s (200 + e), fc_frm ns row
def fc_iG (ns : Nat) (s : fc_S) : Prop := ∀ i, i < ns → (s (10 + i)).length ≤ 4 ∧ ∀ row ∈ s (10 + i), ∃ (p m v : Nat) (h : Int32), p ≤ 9 ∧ m ≤ 511 ∧ v ≤ 6 ∧ row = [nI p, nI m, nI v, h]
def fc_iR (ns room : Nat) (s : fc_S) : Prop := ∀ i, i < ns → (s (20 + i)).length ≤ room ∧ ∀ row ∈ s (20 + i), ∃ (f t p : Nat) (m l u : Int32), f < 6 ∧ t < 6 ∧ p < 4 ∧ row = [nI f, nI t, nI p, m, l, u]
def fc_oOk (row : List Int32) : Prop := (∃ p f t, p < 4 ∧ f < 6 ∧ t < 6 ∧ row = [0, nI p, nI f, nI t, 0]) ∨ (∃ f t, f < 6 ∧ t < 6 ∧ row = [1, -1, nI f, nI t, 0]) ∨ (∃ w : Int32, row = [2, w, -1, -1, 0]) ∨ (∃ (b n : Int32) (f t : Nat), f < 6 ∧ t < 6 ∧ row = [3, b, nI f, nI t, n]) ∨ (∃ (n : Int32) (f t : Nat), f < 6 ∧ t < 6 ∧ row = [4, -1, nI f, nI t, n]) ∨ row = [5, -1, -1, -1, 0]
def fc_qOk (ns : Nat) (row : List Int32) : Prop := (∃ (p f t : Nat) (n : Int32), p ≤ 4 ∧ f < 6 ∧ t < 6 ∧ row = [0, nI p, nI f, nI t, n]) ∨ (∃ p o, p < 4 ∧ o < 4 * ns ∧ row = [1, nI p, nI o, -1, 0]) ∨ (∃ w : Int32, row = [2, w, -1, -1, 0]) ∨ (∃ f t, f < 6 ∧ t < 6 ∧ row = [3, -1, nI f, nI t, 0]) ∨ (∃ f t, f < 6 ∧ t < 6 ∧ row = [4, -1, nI f, nI t, 0]) ∨ ∃ p, p < 4 ∧ row = [5, nI p, -1, -1, 0]
def fc_iL (ns : Nat) (s : fc_S) : Prop := ∀ i, i < ns → ((s (30 + i)).length ≤ 59 ∧ ∀ row ∈ s (30 + i), fc_oOk row) ∧ (s (40 + i)).length ≤ 59 ∧ ∀ row ∈ s (40 + i), fc_qOk ns row
def fc_iH (ns : Nat) (s : fc_S) : Prop := (∃ now : Int32, s 0 = [[now, nI (s 1).length]]) ∧ (s 1).length ≤ 6 ∧ ∀ (h : Nat) (row : List Int32), (s 1)[h]? = some row → ∃ (i p : Nat) (a b c : Int32), i < ns ∧ p < 4 ∧ row = [nI h, nI i, nI p, a, b, c]
def fc_end (ns : Nat) (x : Int32) : Prop := x = -1 ∨ ∃ m, m < 4 * ns ∧ x = nI m
def fc_iO (ns : Nat) (s : fc_S) : Prop := (∃ w : Int32, s 2 = [[w]]) ∧ (∃ o, s 3 = [o] ∧ o.length = 4 * ns ∧ ∀ x ∈ o, fc_end ns x) ∧ (∃ m, s 4 = [m] ∧ m.length = 4 * ns ∧ ∀ x ∈ m, x = 0 ∨ x = 1) ∧ ∃ p, s 5 = [p] ∧ p.length = 6 ∧ ∀ x ∈ p, fc_end ns x
def fc_iK (ns : Nat) (s : fc_S) : Prop := (s 7).length ≤ 6 ∧ ∀ row ∈ s 7, ∃ (f t l : Nat) (st wv aw kp kn : Int32) (way : List Int32), f < 6 ∧ t < 6 ∧ row = [nI f, nI t, st, wv, aw, nI l, kp, kn] ++ way ∧ (st = 1 ∨ st = 2 ∨ st = 3) ∧ (kp = 0 ∨ kp = 1) ∧ 1 ≤ way.length ∧ way.length ≤ 5 ∧ l < way.length ∧ ∀ e ∈ way, ∃ m, m < 4 * ns ∧ e = nI m
def fc_iD (ns room : Nat) (s : fc_S) : Prop := (2 ≤ ns ∧ ns ≤ 5 ∧ 1 ≤ room ∧ room ≤ 8) ∧ fc_iH ns s ∧ fc_iP ns s ∧ fc_iW ns s ∧ fc_iG ns s ∧ fc_iR ns room s ∧ fc_iL ns s ∧ fc_iO ns s ∧ fc_iK ns s
