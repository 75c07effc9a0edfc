/-! the fabric as rows of numbers, and what each call does to it.
0: now, how many hosts. 1: hosts (number, switch, port, taken, latest number, latest from). 2: waves. 3: other ends. 4: marks. 5: places. 7: courses (from, to, state, wave, awaited, led to, keeps, kept number, then the way). 10+i: guards (priority, match, verdict, hits). 20+i: rules (from, to, port, made, last, uses). 30+i: orders. 40+i: reports (code, value, from, to, number). 100+e: a port (host, other end, up). 200+e: its wire (from, to, number; or -1, origin, 0). -/
abbrev fc_S : Type := Nat → List (List Int32)
def fc_up (s : fc_S) (c : Nat) (rows : List (List Int32)) : fc_S := fun q => if q = c then rows else s q
def fc_get (s : fc_S) (c k j : Nat) : Int32 := ((s c).getD k []).getD j 0
def fc_put (s : fc_S) (c k j : Nat) (x : Int32) : fc_S := fc_up s c ((s c).set k (((s c).getD k []).set j x))
def fc_add (s : fc_S) (c : Nat) (row : List Int32) : fc_S := fc_up s c (s c ++ [row])
def fc_del (s : fc_S) (c k : Nat) : fc_S := fc_up s c ((s c).eraseIdx k)
def fc_len (s : fc_S) (c : Nat) : Nat := (s c).length
def fc_now (s : fc_S) : Int32 := fc_get s 0 0 0
/-- what a call may name -/
def fc_free (s : fc_S) (e : Nat) : Bool := fc_get s (100 + e) 0 0 == -1 && fc_get s (100 + e) 0 1 == -1
def fc_sw (ns : Nat) (x : Int32) : Bool := decide (0 ≤ x) && decide (x < nI ns)
def fc_pt (ns : Nat) (x p : Int32) : Bool := fc_sw ns x && (decide (0 ≤ p) && decide (p < 4))
def fc_e (x p : Int32) : Nat := 4 * x.toNatClampNeg + p.toNatClampNeg
def fc_en (ns : Nat) (s : fc_S) (x p : Int32) : Bool := fc_pt ns x p && fc_get s (100 + fc_e x p) 0 1 != -1
def fc_hs (s : fc_S) (h : Int32) : Bool := decide (0 ≤ h) && decide (h < nI (fc_len s 1))
def fc_gd (ns : Nat) (s : fc_S) (x k : Int32) : Bool := fc_sw ns x && (decide (0 ≤ k) && decide (k < nI (fc_len s (10 + x.toNatClampNeg))))
/-- attach, link, turn -/
def fc_attach (ns : Nat) (s : fc_S) (x p : Int32) : Int32 × fc_S :=
  if fc_pt ns x p && fc_free s (fc_e x p) then
    if 6 ≤ fc_len s 1 then (-2, s)
    else (nI (fc_len s 1), fc_put (fc_put (fc_add s 1 [nI (fc_len s 1), x, p, 0, 0, -1]) 0 0 1 (nI (fc_len s 1 + 1))) (100 + fc_e x p) 0 0 (nI (fc_len s 1)))
  else (-1, s)
def fc_join (s : fc_S) (e o : Nat) : fc_S := fc_put (fc_put s (100 + e) 0 1 (nI o)) (100 + e) 0 2 1
def fc_link (ns : Nat) (s : fc_S) (a p b q : Int32) : Bool × fc_S :=
  if fc_pt ns a p && (fc_pt ns b q && (a != b && (fc_free s (fc_e a p) && fc_free s (fc_e b q)))) then (true, fc_join (fc_join s (fc_e a p) (fc_e b q)) (fc_e b q) (fc_e a p)) else (false, s)
def fc_tp (s : fc_S) (e : Nat) (up : Int32) : fc_S :=
  if up = 0 then fc_add (fc_up (fc_put s (100 + e) 0 2 up) (200 + e) []) (40 + e / 4) [5, nI (e % 4), -1, -1, 0] else fc_put s (100 + e) 0 2 up
def fc_mate (s : fc_S) (e : Nat) : Nat := (fc_get s (100 + e) 0 1).toNatClampNeg
def fc_turn (ns : Nat) (s : fc_S) (x p up : Int32) : Bool × fc_S :=
  if fc_en ns s x p && (fc_get s (100 + fc_e x p) 0 2 != up && (decide (fc_len s (40 + fc_e x p / 4) < 20) && decide (fc_len s (40 + fc_mate s (fc_e x p) / 4) < 20))) then (true, fc_tp (fc_tp s (fc_e x p) up) (fc_mate s (fc_e x p)) up) else (false, s)
/-- guards -/
def fc_mt (m : Int32) : Bool := decide (0 ≤ m) && (decide (m ≤ 511) && (decide (m &&& 7 ≤ 4) && (decide (m >>> 3 &&& 7 ≤ 6) && decide (m >>> 6 &&& 7 ≤ 6))))
def fc_guard (ns : Nat) (s : fc_S) (x pr m v : Int32) : Int32 × fc_S :=
  if fc_sw ns x && (decide (0 ≤ pr) && (decide (pr ≤ 9) && (decide (0 ≤ v) && (decide (v ≤ 6) && fc_mt m)))) then
    if 4 ≤ fc_len s (10 + x.toNatClampNeg) then (-2, s) else (nI (fc_len s (10 + x.toNatClampNeg)), fc_add s (10 + x.toNatClampNeg) [pr, m, v, 0])
  else (-1, s)
def fc_unguard (ns : Nat) (s : fc_S) (x k : Int32) : Int32 × fc_S :=
  if fc_gd ns s x k then (fc_get s (10 + x.toNatClampNeg) k.toNatClampNeg 3, fc_del s (10 + x.toNatClampNeg) k.toNatClampNeg) else (-1, s)
def fc_hits (ns : Nat) (s : fc_S) (x k : Int32) : Int32 := if fc_gd ns s x k then fc_get s (10 + x.toNatClampNeg) k.toNatClampNeg 3 else -1
/-- a frame goes out by a port -/
def fc_take (s : fc_S) (h : Nat) (row : List Int32) : fc_S := fc_put (fc_put (fc_put s 1 h 3 (fc_get s 1 h 3 + 1)) 1 h 4 (row.getD 2 0)) 1 h 5 (row.getD 0 0)
def fc_out (s : fc_S) (e : Nat) (row : List Int32) : fc_S :=
  if fc_get s (100 + e) 0 0 != -1 then
    if row.getD 0 0 != -1 && row.getD 1 0 == fc_get s (100 + e) 0 0 then fc_take s (fc_get s (100 + e) 0 0).toNatClampNeg row else s
  else if fc_get s (100 + e) 0 2 != 0 && decide (fc_len s (200 + e) < 6) then fc_add s (200 + e) row else s
/-- a report that is lost where many wait -/
def fc_slight (s : fc_S) (i : Nat) (row : List Int32) : fc_S := if fc_len s (40 + i) < 8 then fc_add s (40 + i) row else s
/-- guards and rules -/
def fc_fit (w v : Int32) : Bool := w == 0 || w == v + 1
def fc_mch (m p f t : Int32) : Bool := fc_fit (m &&& 7) p && (fc_fit (m >>> 3 &&& 7) f && fc_fit (m >>> 6 &&& 7) t)
def fc_bst (rows : List (List Int32)) (p f t : Int32) : Nat → Option Nat
  | 0 => none
  | k + 1 =>
    match fc_bst rows p f t k with
    | none => if fc_mch ((rows.getD k []).getD 1 0) p f t then some k else none
    | some b => if decide ((rows.getD b []).getD 0 0 < (rows.getD k []).getD 0 0) && fc_mch ((rows.getD k []).getD 1 0) p f t then some k else some b
def fc_rix (s : fc_S) (i : Nat) (f t : Int32) : Option Nat := (s (20 + i)).findIdx? (fun r => r.getD 0 0 == f && r.getD 1 0 == t)
def fc_rules (s : fc_S) (i : Nat) (p f t nr : Int32) : fc_S :=
  match fc_rix s i f t with
  | none => fc_slight s i [0, p, f, t, nr]
  | some k => fc_out (fc_put (fc_put s (20 + i) k 5 (fc_get s (20 + i) k 5 + 1)) (20 + i) k 4 (fc_now s)) (4 * i + (fc_get s (20 + i) k 2).toNatClampNeg) [f, t, nr]
def fc_in (s : fc_S) (i : Nat) (p f t nr : Int32) : fc_S :=
  match fc_bst (s (10 + i)) p f t (fc_len s (10 + i)) with
  | none => fc_rules s i p f t nr
  | some k =>
    if fc_get s (10 + i) k 2 < 4 then fc_out (fc_put s (10 + i) k 3 (fc_get s (10 + i) k 3 + 1)) (4 * i + (fc_get s (10 + i) k 2).toNatClampNeg) [f, t, nr]
    else if fc_get s (10 + i) k 2 = 5 then fc_rules (fc_put s (10 + i) k 3 (fc_get s (10 + i) k 3 + 1)) i p f t nr
    else if fc_get s (10 + i) k 2 = 6 then fc_slight (fc_put s (10 + i) k 3 (fc_get s (10 + i) k 3 + 1)) i [0, p, f, t, nr]
    else fc_put s (10 + i) k 3 (fc_get s (10 + i) k 3 + 1)
/-- send, carry -/
def fc_send (s : fc_S) (f t nr : Int32) : Bool × fc_S :=
  if fc_hs s f && (fc_hs s t && f != t) then (true, fc_in s (fc_get s 1 f.toNatClampNeg 1).toNatClampNeg (fc_get s 1 f.toNatClampNeg 2) f t nr) else (false, s)
def fc_carry (ns : Nat) (s : fc_S) (x p : Int32) : Bool × fc_S :=
  if fc_en ns s x p && !(s (200 + fc_e x p)).isEmpty then
    (true, if fc_get s (200 + fc_e x p) 0 0 = -1 then fc_slight (fc_del s (200 + fc_e x p) 0) (fc_mate s (fc_e x p) / 4) [1, nI (fc_mate s (fc_e x p) % 4), fc_get s (200 + fc_e x p) 0 1, -1, 0]
      else fc_in (fc_del s (200 + fc_e x p) 0) (fc_mate s (fc_e x p) / 4) (nI (fc_mate s (fc_e x p) % 4)) (fc_get s (200 + fc_e x p) 0 0) (fc_get s (200 + fc_e x p) 0 1) (fc_get s (200 + fc_e x p) 0 2))
  else (false, s)
/-- obey -/
def fc_cut (s : fc_S) (i : Nat) (f t : Int32) : fc_S := match fc_rix s i f t with | none => s | some k => fc_del s (20 + i) k
def fc_putr (room : Nat) (s : fc_S) (i : Nat) (f t p : Int32) : fc_S :=
  if room ≤ fc_len (fc_cut s i f t) (20 + i) then fc_add (fc_cut s i f t) (40 + i) [3, -1, f, t, 0] else fc_add (fc_cut s i f t) (20 + i) [f, t, p, fc_now s, fc_now s, 0]
def fc_outs (s : fc_S) (i : Nat) (bits : Int32) (row : List Int32) : Nat → fc_S
  | 0 => s
  | p + 1 => if bits >>> nI p &&& 1 = 1 then fc_out (fc_outs s i bits row p) (4 * i + p) row else fc_outs s i bits row p
def fc_prbs (s : fc_S) (i : Nat) : Nat → fc_S
  | 0 => s
  | p + 1 => if fc_get (fc_prbs s i p) (100 + (4 * i + p)) 0 1 != -1 then fc_out (fc_prbs s i p) (4 * i + p) [-1, nI (4 * i + p), 0] else fc_prbs s i p
def fc_does (room : Nat) (s : fc_S) (i : Nat) (r : List Int32) : fc_S :=
  if r.getD 0 0 = 0 then fc_putr room s i (r.getD 2 0) (r.getD 3 0) (r.getD 1 0)
  else if r.getD 0 0 = 1 then fc_cut s i (r.getD 2 0) (r.getD 3 0)
  else if r.getD 0 0 = 2 then fc_add s (40 + i) [2, r.getD 1 0, -1, -1, 0]
  else if r.getD 0 0 = 3 then fc_outs s i (r.getD 1 0) [r.getD 2 0, r.getD 3 0, r.getD 4 0] 4
  else if r.getD 0 0 = 4 then fc_rules s i 4 (r.getD 2 0) (r.getD 3 0) (r.getD 4 0)
  else if r.getD 0 0 = 5 then fc_prbs s i 4
  else s
def fc_obey (ns room : Nat) (s : fc_S) (x : Int32) : Int32 × fc_S :=
  if fc_sw ns x && !(s (30 + x.toNatClampNeg)).isEmpty then (fc_get s (30 + x.toNatClampNeg) 0 0, fc_does room (fc_del s (30 + x.toNatClampNeg) 0) x.toNatClampNeg ((s (30 + x.toNatClampNeg)).getD 0 [])) else (-1, s)
/-- probe, tick -/
def fc_all (ns : Nat) (s : fc_S) (row : List Int32) : fc_S := fun q => if 30 ≤ q ∧ q < 30 + ns then s q ++ [row] else s q
def fc_probe (ns : Nat) (s : fc_S) : Bool × fc_S := if (List.range ns).all (fun i => decide (fc_len s (30 + i) < 16)) then (true, fc_all ns s [5, -1, -1, -1, 0]) else (false, s)
def fc_old (idle : Nat) (now : Int32) (r : List Int32) : Bool := decide (nI idle ≤ now - r.getD 4 0) || decide (4 * nI idle ≤ now - r.getD 3 0)
/-- the rules of a switch that are old go, each with a report -/
def fc_drop (idle : Nat) (s : fc_S) (i : Nat) : fc_S := fun q =>
  if q = 20 + i then (s q).filter (fun r => !fc_old idle (fc_now s) r)
  else if q = 40 + i then s q ++ ((s (20 + i)).filter (fc_old idle (fc_now s))).map (fun r => [4, -1, r.getD 0 0, r.getD 1 0, 0])
  else s q
def fc_drops (idle : Nat) (s : fc_S) : Nat → fc_S
  | 0 => s
  | i + 1 => fc_drop idle (fc_drops idle s i) i
def fc_gone (idle : Nat) (s : fc_S) : Nat → Nat
  | 0 => 0
  | i + 1 => fc_gone idle s i + ((s (20 + i)).filter (fc_old idle (fc_now s))).length
def fc_tick (ns idle : Nat) (s : fc_S) : Int32 × fc_S := (nI (fc_gone idle (fc_put s 0 0 0 (fc_now s + 1)) ns), fc_drops idle (fc_put s 0 0 0 (fc_now s + 1)) ns)
/-- what is asked -/
def fc_waiting (ns : Nat) (s : fc_S) (x w : Int32) : Int32 :=
  if fc_sw ns x then
    if decide (0 ≤ w) && decide (w < 4) then nI (fc_len s (200 + fc_e x w)) else if w = 4 then nI (fc_len s (30 + x.toNatClampNeg)) else if w = 5 then nI (fc_len s (40 + x.toNatClampNeg)) else -1
  else -1
def fc_rule (ns : Nat) (s : fc_S) (x f t w : Int32) : Int32 :=
  if fc_sw ns x then
    match fc_rix s x.toNatClampNeg f t with
    | none => -1
    | some k => if w = 0 then fc_get s (20 + x.toNatClampNeg) k 2 else if w = 1 then fc_get s (20 + x.toNatClampNeg) k 5 else if w = 2 then nI k else -1
  else -1
def fc_taken (s : fc_S) (h w : Int32) : Int32 :=
  if fc_hs s h then if w = 0 then fc_get s 1 h.toNatClampNeg 3 else if w = 1 then fc_get s 1 h.toNatClampNeg 4 else if w = 2 then fc_get s 1 h.toNatClampNeg 5 else -1 else -1
def fc_known (ns : Nat) (s : fc_S) (x p : Int32) : Int32 := if fc_pt ns x p then fc_get s 3 0 (fc_e x p) else -1
def fc_place (s : fc_S) (h : Int32) : Int32 := if fc_hs s h then fc_get s 5 0 h.toNatClampNeg else -1
def fc_cix (s : fc_S) (f t : Int32) : Option Nat := (s 7).findIdx? (fun r => r.getD 0 0 == f && r.getD 1 0 == t)
def fc_way (s : fc_S) (k : Nat) : List Int32 := ((s 7).getD k []).drop 8
def fc_course (s : fc_S) (f t k : Int32) : Int32 :=
  match fc_cix s f t with
  | none => -1
  | some c => if decide (0 ≤ k) && decide (k < nI (fc_way s c).length) then (fc_way s c).getD k.toNatClampNeg 0 / 4 else if k = -1 then fc_get s 7 c 2 else if k = -2 then (if fc_get s 7 c 6 = 0 then 0 else fc_get s 7 c 7) else -1
/-- the controller -/
def fc_ord (s : fc_S) (e : Int32) (row : List Int32) : fc_S := fc_add s (30 + e.toNatClampNeg / 4) row
def fc_clr (s : fc_S) (k : Nat) : fc_S :=
  (fc_way s k).foldl (fun u e => fc_ord (fc_ord u e [1, -1, fc_get s 7 k 0, fc_get s 7 k 1, 0]) e [2, fc_get s 2 0 0 + 1, -1, -1, 0])
    (fc_put (fc_put (fc_put (fc_put s 2 0 0 (fc_get s 2 0 0 + 1)) 7 k 2 1) 7 k 3 (fc_get s 2 0 0 + 1)) 7 k 4 (nI (fc_way s k).length))
def fc_lead (s : fc_S) (k : Nat) : fc_S :=
  fc_ord (fc_ord (fc_put (fc_put (fc_put s 2 0 0 (fc_get s 2 0 0 + 1)) 7 k 3 (fc_get s 2 0 0 + 1)) 7 k 5 (fc_get s 7 k 5 - 1))
    ((fc_way s k).getD (fc_get s 7 k 5 - 1).toNatClampNeg 0) [0, nI (((fc_way s k).getD (fc_get s 7 k 5 - 1).toNatClampNeg 0).toNatClampNeg % 4), fc_get s 7 k 0, fc_get s 7 k 1, 0])
    ((fc_way s k).getD (fc_get s 7 k 5 - 1).toNatClampNeg 0) [2, fc_get s 2 0 0 + 1, -1, -1, 0]
/-- links as the controller knows them -/
def fc_oth (s : fc_S) (e : Nat) : Option Nat := if fc_get s 3 0 e = -1 then none else some (fc_get s 3 0 e).toNatClampNeg
def fc_E (s : fc_S) (u w : Nat) : Bool := (List.range 4).any (fun p => (fc_oth s (4 * u + p)).any (fun e => e / 4 == w))
/-- the least port of u that leads to w -/
def fc_ld (s : fc_S) (u w : Nat) : Nat := pw_least (fun p => (fc_oth s (4 * u + p)).any (fun e => e / 4 == w)) 4
def fc_wayOf (ns : Nat) (s : fc_S) (f t : Int32) : List Int32 :=
  if fc_get s 5 0 f.toNatClampNeg = -1 ∨ fc_get s 5 0 t.toNatClampNeg = -1 then [] else
  match pw_L ns (fc_E s) ((fc_get s 5 0 t.toNatClampNeg).toNatClampNeg / 4) ns ((fc_get s 5 0 f.toNatClampNeg).toNatClampNeg / 4) with
  | none => []
  | some d => (List.range d).map (fun i => nI (4 * pw_at ns (fc_E s) ((fc_get s 5 0 t.toNatClampNeg).toNatClampNeg / 4) d ((fc_get s 5 0 f.toNatClampNeg).toNatClampNeg / 4) i
      + fc_ld s (pw_at ns (fc_E s) ((fc_get s 5 0 t.toNatClampNeg).toNatClampNeg / 4) d ((fc_get s 5 0 f.toNatClampNeg).toNatClampNeg / 4) i) (pw_at ns (fc_E s) ((fc_get s 5 0 t.toNatClampNeg).toNatClampNeg / 4) d ((fc_get s 5 0 f.toNatClampNeg).toNatClampNeg / 4) (i + 1))))
      ++ [fc_get s 5 0 t.toNatClampNeg]
/-- a course begins to be laid along a way -/
def fc_lay (s : fc_S) (k : Nat) (way : List Int32) : fc_S := fc_lead (fc_up s 7 ((s 7).set k (((((s 7).getD k []).take 8).set 2 2).set 5 (nI way.length) ++ way))) k
def fc_make (ns : Nat) (s : fc_S) (f t nr : Int32) : fc_S :=
  if 6 ≤ fc_len s 7 then s else if (fc_wayOf ns s f t).isEmpty then s else fc_lay (fc_add s 7 [f, t, 2, 0, 0, 0, 1, nr]) (fc_len s 7) (fc_wayOf ns s f t)
def fc_bits (s : fc_S) (i : Nat) (port : Int32) (u : Nat) : Nat → Int32
  | 0 => 0
  | p + 1 => if fc_get s 4 0 (4 * u + p) = 0 ∧ ¬ (u = i ∧ nI p = port) then fc_bits s i port u p ||| (1 <<< nI p) else fc_bits s i port u p
def fc_flood (s : fc_S) (i : Nat) (port f t nr : Int32) : Nat → fc_S
  | 0 => s
  | u + 1 => if fc_bits s i port u 4 ≠ 0 ∧ fc_len s (30 + u) < 16 then fc_add (fc_flood s i port f t nr u) (30 + u) [3, fc_bits s i port u 4, f, t, nr] else fc_flood s i port f t nr u
def fc_miss (ns : Nat) (s0 : fc_S) (i : Nat) (port f t nr : Int32) : fc_S :=
  let s := if port ≠ 4 ∧ fc_get s0 4 0 (4 * i + port.toNatClampNeg) = 0 then fc_put s0 5 0 f.toNatClampNeg (nI (4 * i + port.toNatClampNeg)) else s0
  match fc_cix s f t with
  | some k => if fc_get s 7 k 2 = 3 then fc_clr (fc_put (fc_put s 7 k 6 1) 7 k 7 nr) k else fc_put (fc_put s 7 k 6 1) 7 k 7 nr
  | none => if fc_get s 5 0 t.toNatClampNeg = -1 then fc_flood s i port f t nr ns else fc_make ns s f t nr
/-- every course that is hurt, and laying or laid, is cleared -/
def fc_hurt (s : fc_S) (hurt : List Int32 → Bool) : Nat → fc_S
  | 0 => s
  | k + 1 => if hurt (fc_way s k) = true ∧ (fc_get s 7 k 2 = 2 ∨ fc_get s 7 k 2 = 3) then fc_clr (fc_hurt s hurt k) k else fc_hurt s hurt k
def fc_seen (s : fc_S) (e o : Nat) : fc_S :=
  fc_hurt (fc_up (fc_up (fc_up s 4 [(((s 4).getD 0 []).set e 1).set o 1]) 3 [(((s 3).getD 0 []).set e (nI o)).set o (nI e)]) 5 [((s 5).getD 0 []).map (fun x => if x = nI e ∨ x = nI o then -1 else x)])
    (fun w => w.getLast? == some (nI e) || w.getLast? == some (nI o)) (fc_len s 7)
def fc_done (ns : Nat) (s : fc_S) (wv : Int32) : fc_S :=
  match (s 7).findIdx? (fun r => r.getD 3 0 == wv) with
  | none => s
  | some k =>
    if fc_get s 7 k 2 = 1 then
      if 0 < fc_get s 7 k 4 - 1 then fc_put s 7 k 4 (fc_get s 7 k 4 - 1)
      else if fc_get s 7 k 6 = 0 ∨ (fc_wayOf ns s (fc_get s 7 k 0) (fc_get s 7 k 1)).isEmpty then fc_del s 7 k
      else fc_lay (fc_put s 7 k 4 (fc_get s 7 k 4 - 1)) k (fc_wayOf ns s (fc_get s 7 k 0) (fc_get s 7 k 1))
    else if fc_get s 7 k 2 = 2 then
      if 0 < fc_get s 7 k 5 then fc_lead s k
      else if fc_get s 7 k 6 = 0 then fc_put s 7 k 2 3
      else fc_ord (fc_put (fc_put s 7 k 2 3) 7 k 6 0) ((fc_way s k).getD 0 0) [4, -1, fc_get s 7 k 0, fc_get s 7 k 1, fc_get s 7 k 7]
    else s
def fc_noroom (s : fc_S) (f t : Int32) : fc_S :=
  match fc_cix s f t with
  | none => s
  | some k => if fc_get s 7 k 2 = 2 then fc_clr (fc_put s 7 k 6 0) k else s
def fc_wentOff (s : fc_S) (i : Nat) (f t : Int32) : fc_S :=
  match fc_cix s f t with
  | none => s
  | some k => if (fc_get s 7 k 2 = 2 ∨ fc_get s 7 k 2 = 3) ∧ (fc_way s k).any (fun e => e.toNatClampNeg / 4 == i) = true then fc_clr s k else s
def fc_down (s : fc_S) (e : Nat) : fc_S :=
  if fc_get s 3 0 e = -1 then s
  else fc_hurt (fc_up s 3 [(((s 3).getD 0 []).set e (-1)).set (fc_get s 3 0 e).toNatClampNeg (-1)]) (fun w => w.any (fun x => x == nI e) || w.any (fun x => x == fc_get s 3 0 e)) (fc_len s 7)
def fc_hears (ns : Nat) (s : fc_S) (i : Nat) (r : List Int32) : fc_S :=
  if r.getD 0 0 = 0 then fc_miss ns s i (r.getD 1 0) (r.getD 2 0) (r.getD 3 0) (r.getD 4 0)
  else if r.getD 0 0 = 1 then fc_seen s (4 * i + (r.getD 1 0).toNatClampNeg) (r.getD 2 0).toNatClampNeg
  else if r.getD 0 0 = 2 then fc_done ns s (r.getD 1 0)
  else if r.getD 0 0 = 3 then fc_noroom s (r.getD 2 0) (r.getD 3 0)
  else if r.getD 0 0 = 4 then fc_wentOff s i (r.getD 2 0) (r.getD 3 0)
  else if r.getD 0 0 = 5 then fc_down s (4 * i + (r.getD 1 0).toNatClampNeg)
  else s
def fc_report (ns : Nat) (s : fc_S) (x : Int32) : Int32 × fc_S :=
  if fc_sw ns x && !(s (40 + x.toNatClampNeg)).isEmpty then (fc_get s (40 + x.toNatClampNeg) 0 0, fc_hears ns (fc_del s (40 + x.toNatClampNeg) 0) x.toNatClampNeg ((s (40 + x.toNatClampNeg)).getD 0 [])) else (-1, s)
