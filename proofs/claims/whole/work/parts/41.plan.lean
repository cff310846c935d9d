/-! THE PLAN as a function of numbers -/
/-- how long a cast is: kind, depth, bottles -/
def wyI (k e : Int32) : Int32 := if k = 5 then 0 else if k = 2 then (e + 30 - 1) / 30 else if k = 3 ∨ k = 4 then (e + 90 - 1) / 90 else (e + 60 - 1) / 60
def mnI (k e b : Int32) : Int32 := 2 * wyI k e + (if k = 1 then 2 * b else if k = 3 then 15 else if k = 4 then 45 else 0)
/-- minutes of all casts of a station that are not done -/
def smI (ekind est edep ebeg ebot : Nat → Int32) (s : Int32) : Nat → Int32
  | 0 => 0
  | n + 1 => smI ekind est edep ebeg ebot s n + (if est n = s ∧ ebeg n = -1 then mnI (ekind n) (edep n) (ebot n) else 0)
def lsI (m : Int32) : Int32 := if m ≤ 60 then 1 else (m + 60 - 1) / 60
def hrI (ax ay bx by' sp : Int32) : Int32 := (iabs (ax - bx) + iabs (ay - by') + sp - 1) / sp
/-- all that the plan depends on: how many, worth, must-be-ahead, lasting, ways, first hours -/
abbrev PI : Type := Nat × (Nat → Nat) × (Nat → Nat → Bool) × (Nat → Nat) × (Nat → Nat → Nat) × (Nat → Nat → Option Nat)
def tN (x : Int32) : Nat := x.toInt.toNat
/-- whether a station can begin in an hour -/
def cnB (ef et el : Nat → Int32) (eF : Nat → Int32) (L s hh : Nat) : Bool :=
  decide (hh + L ≤ 201) && decide (tN (ef s) ≤ hh) && decide (hh + L ≤ tN (et s) + 1) && (decide (el s = 0) || (decide (el s = 1) == (decide (6 ≤ hh % 24) && decide (hh % 24 ≤ 17)))) && (List.range L).all (fun k => decide (eF (hh + k) ≠ 0))
def mkP (nS nC : Nat) (sp : Int32) (ex ey ew ef et el ea eF ekind est edep ebeg ebot : Nat → Int32) : PI :=
  (nS, fun i => tN (ew i), fun s i => decide ((ea i >>> (Int32.ofNat s &&& 31)) &&& 1 ≠ 0), fun i => tN (lsI (smI ekind est edep ebeg ebot (Int32.ofNat i) nC)),
    fun j i => tN (if j = 8 then hrI 0 0 (ex i) (ey i) sp else hrI (ex j) (ey j) (ex i) (ey i) sp),
    fun i c => (List.range 201).find? (fun hh => decide (c ≤ hh) && cnB ef et el eF (tN (lsI (smI ekind est edep ebeg ebot (Int32.ofNat i) nC))) i hh))
abbrev Bst : Type := Nat × Nat × List (Nat × Nat)
def bsU (b : Bst) (w e : Nat) (r : List (Nat × Nat)) : Bst := if b.1 < w ∨ b.1 = w ∧ e < b.2.1 then (w, e, r) else b
/-- whether a station may be the next in a row, and when it begins there -/
def nxt (P : PI) (r : List (Nat × Nat)) (last e i : Nat) : Option Nat :=
  if r.all (fun q => decide (q.1 ≠ i) && !P.2.2.1 i q.1) then P.2.2.2.2.2 i (e + P.2.2.2.2.1 last i) else none
/-- all rows, those with lesser stations first: the best one -/
def bfR (P : PI) : Nat → List (Nat × Nat) → Nat → Nat → Nat → Bst → Bst
  | 0, _, _, _, _, b => b
  | n + 1, r, last, e, w, b => (List.range P.1).foldl (fun b i => match nxt P r last e i with
    | none => b
    | some hh => bfR P n (r ++ [(i, hh)]) i (hh + P.2.2.2.1 i) (w + P.2.1 i) (bsU b (w + P.2.1 i) (hh + P.2.2.2.1 i) (r ++ [(i, hh)]))) b
def bfP (P : PI) : Bst := bfR P P.1 [] 8 0 0 (0, 0, [])
/-- what stands in the cells is the plan -/
def pOK (b : Bst) (w e m : Int32) (pr ph : Nat → Int32) : Prop :=
  b.2.2.length ≤ 8 ∧ w = Int32.ofNat b.1 ∧ e = Int32.ofNat b.2.1 ∧ m = Int32.ofNat b.2.2.length ∧ ∀ i, i < b.2.2.length → pr i = Int32.ofNat (b.2.2.getD i (0, 0)).1 ∧ ph i = Int32.ofNat (b.2.2.getD i (0, 0)).2
def iK (P : PI) (stale w e m : Int32) (pr ph : Nat → Int32) (known w2 e2 m2 : Int32) (pr2 ph2 : Nat → Int32) : Prop :=
  (stale = 0 ∨ stale = 1) ∧ (stale = 0 → pOK (bfP P) w e m pr ph) ∧ (known = 0 ∨ known = 1) ∧ (known = 1 → pOK (bfP P) w2 e2 m2 pr2 ph2)
