/-! THE CONSTRUCTORS (written by wip/whole/mkctor.py) -/
def rowC (a j : Nat) : Int32 := if a = 66 then (if j < 201 then 1 else 0) else if a = 91 then (if j < 60 then -1 else 0) else 0
def rowM (a j : Nat) : Int32 := if a = 112 then (if j < 201 then 1 else 0) else if a = 137 then (if j < 4 then -1 else 0) else 0
/-- what stands in the class's cells behind its constructor -/
def icS (H : Hp) : Prop := hS H 64 = (11, 0) ∧ hS H 65 = (310, 8) ∧ hS H 66 = (101, 201) ∧ hS H 67 = (7, 0) ∧ hS H 68 = (100, 8) ∧ hS H 69 = (100, 8) ∧ hS H 70 = (100, 8) ∧ hS H 71 = (100, 8) ∧ hS H 72 = (100, 8) ∧ hS H 73 = (100, 8) ∧ hS H 74 = (100, 8) ∧ hS H 75 = (100, 72) ∧ hS H 76 = (100, 1616) ∧ hS H 77 = (100, 2048) ∧ hS H 78 = (303, 30) ∧ hS H 79 = (304, 8) ∧ hS H 80 = (5, 0) ∧ hS H 81 = (100, 160) ∧ hS H 82 = (100, 161) ∧ hS H 83 = (100, 161) ∧ hS H 84 = (100, 161) ∧ hS H 85 = (6, 0) ∧ hS H 86 = (100, 160) ∧ hS H 87 = (100, 12) ∧ hS H 88 = (100, 12) ∧ hS H 89 = (100, 4) ∧ hS H 90 = (308, 250) ∧ hS H 91 = (100, 60) ∧ hS H 92 = (1, 0) ∧ hS H 93 = (100, 50) ∧ hS H 94 = (309, 4) ∧ hS H 95 = (9, 0) ∧ hS H 96 = (100, 100) ∧ hS H 97 = (9, 0) ∧ hS H 98 = (100, 100) ∧ hS H 99 = (9, 0) ∧ hS H 100 = (100, 100) ∧ hS H 101 = (9, 0) ∧ hS H 102 = (100, 100)
def icP (H : Hp) : Prop := hG H 0 92 = some 93 ∧ hG H 19 80 = some 81 ∧ hG H 23 80 = some 82 ∧ hG H 24 80 = some 83 ∧ hG H 25 80 = some 84 ∧ hG H 30 85 = some 86 ∧ hG H 32 85 = some 87 ∧ hG H 33 85 = some 88 ∧ hG H 39 67 = some 68 ∧ hG H 40 67 = some 69 ∧ hG H 42 67 = some 70 ∧ hG H 43 67 = some 71 ∧ hG H 44 67 = some 72 ∧ hG H 45 67 = some 73 ∧ hG H 46 67 = some 74 ∧ hG H 47 67 = some 75 ∧ hG H 48 67 = some 76 ∧ hG H 49 67 = some 77 ∧ hG H 59 95 = some 96 ∧ hG H 59 97 = some 98 ∧ hG H 59 99 = some 100 ∧ hG H 59 101 = some 102 ∧ hG H 68 64 = some 65 ∧ hG H 70 64 = some 66 ∧ hG H 72 64 = some 67 ∧ hG H 73 64 = some 78 ∧ hG H 75 64 = some 79 ∧ hG H 77 64 = some 80 ∧ hG H 78 64 = some 89 ∧ hG H 80 64 = some 90 ∧ hG H 82 64 = some 91 ∧ hG H 83 64 = some 92 ∧ hG H 84 64 = some 94 ∧ hG H 29 80 = some 85
def icF (H : Hp) : Prop := hF H 69 64 = 0 ∧ hF H 71 64 = 5 ∧ hF H 74 64 = 0 ∧ hF H 76 64 = 0 ∧ hF H 79 64 = 0 ∧ hF H 81 64 = 0 ∧ hF H 85 64 = 0 ∧ hF H 35 67 = 1 ∧ hF H 20 80 = 0 ∧ hF H 21 80 = 0 ∧ hF H 22 80 = -1 ∧ hF H 1 92 = 0 ∧ hF H 57 95 = -1 ∧ hF H 58 95 = 0 ∧ hF H 57 97 = -1 ∧ hF H 58 97 = 0 ∧ hF H 57 99 = -1 ∧ hF H 58 99 = 0 ∧ hF H 57 101 = -1 ∧ hF H 58 101 = 0
def icE (H : Hp) : Prop := hE H 66 = rowC 66 ∧ hE H 68 = rowC 68 ∧ hE H 69 = rowC 69 ∧ hE H 70 = rowC 70 ∧ hE H 71 = rowC 71 ∧ hE H 72 = rowC 72 ∧ hE H 73 = rowC 73 ∧ hE H 74 = rowC 74 ∧ hE H 75 = rowC 75 ∧ hE H 76 = rowC 76 ∧ hE H 77 = rowC 77 ∧ hE H 81 = rowC 81 ∧ hE H 82 = rowC 82 ∧ hE H 83 = rowC 83 ∧ hE H 84 = rowC 84 ∧ hE H 86 = rowC 86 ∧ hE H 87 = rowC 87 ∧ hE H 88 = rowC 88 ∧ hE H 89 = rowC 89 ∧ hE H 91 = rowC 91 ∧ hE H 93 = rowC 93 ∧ hE H 96 = rowC 96 ∧ hE H 98 = rowC 98 ∧ hE H 100 = rowC 100 ∧ hE H 102 = rowC 102
def icQ (H : Hp) : Prop := hQ H 65 = (fun _ => none) ∧ hQ H 78 = (fun _ => none) ∧ hQ H 79 = (fun _ => none) ∧ hQ H 90 = (fun _ => none) ∧ hQ H 94 0 = some 95 ∧ hQ H 94 1 = some 97 ∧ hQ H 94 2 = some 99 ∧ hQ H 94 3 = some 101
/-- the old cells are as they were -/
def oldB (B H : Hp) : Prop := ∀ a, a < hN B → hS H a = hS B a ∧ (∀ k, hF H k a = hF B k a) ∧ (∀ k, hG H k a = hG B k a) ∧ hE H a = hE B a ∧ hQ H a = hQ B a
theorem old_sF {B H : Hp} (o : oldB B H) {k a : Nat} {v : Int32} (ha : hN B ≤ a) : oldB B (sF H k a v) := by
  intro x hx
  obtain ⟨a1, a2, a3, a4, a5⟩ := o x hx
  exact ⟨a1, fun y => by rw [hF_sF, if_neg (fun w => by omega)]; exact a2 y, a3, a4, a5⟩
theorem old_sG {B H : Hp} (o : oldB B H) {k a : Nat} {v : Option Nat} (ha : hN B ≤ a) : oldB B (sG H k a v) := by
  intro x hx
  obtain ⟨a1, a2, a3, a4, a5⟩ := o x hx
  exact ⟨a1, a2, fun y => by rw [hG_sG, if_neg (fun w => by omega)]; exact a3 y, a4, a5⟩
theorem old_sE {B H : Hp} (o : oldB B H) {a i : Nat} {v : Int32} (ha : hN B ≤ a) : oldB B (sE H a i v) := by
  intro x hx
  obtain ⟨a1, a2, a3, a4, a5⟩ := o x hx
  exact ⟨a1, a2, a3, by rw [hE_sE_ne (by omega)]; exact a4, a5⟩
theorem old_sQ {B H : Hp} (o : oldB B H) {a i : Nat} {v : Option Nat} (ha : hN B ≤ a) : oldB B (sQ H a i v) := by
  intro x hx
  obtain ⟨a1, a2, a3, a4, a5⟩ := o x hx
  exact ⟨a1, a2, a3, a4, by rw [hQ_sQ_ne (by omega)]; exact a5⟩
theorem old_flE {B H : Hp} (o : oldB B H) {a lo n : Nat} {v : Int32} (ha : hN B ≤ a) : oldB B (flE H a lo n v) := by
  intro x hx
  obtain ⟨a1, a2, a3, a4, a5⟩ := o x hx
  exact ⟨a1, a2, a3, by rw [hE_flE_ne (by omega)]; exact a4, a5⟩
theorem old_nw {B H : Hp} (o : oldB B H) {c l s : Nat} (ha : hN B ≤ hN H) : oldB B (nw H c l s) := by
  intro x hx
  obtain ⟨a1, a2, a3, a4, a5⟩ := o x hx
  have q : x ≠ hN H := by omega
  exact ⟨(hS_nw_ne q).trans a1, fun y => (hF_nw_ne q).trans (a2 y), fun y => (hG_nw_ne q).trans (a3 y), (hE_nw_ne q).trans a4, (hQ_nw_ne q).trans a5⟩
theorem nw_S (h : Hp) (c l s a : Nat) (e : hN h = a) : hS (nw h c l s) a = (c, l) := by rw [hS_nw, if_pos e.symm]
