/-! THE SMALL MACHINE, 1: a machine of its own for this program: blocks of linked instructions over a heap of maps. Its soundness over the kit's machine is proved once, so that every method is then a matter of rewriting. -/
abbrev AV : Type := Int32 ⊕ Int64 ⊕ Option Nat
abbrev LV : Type := List (Option AV)
/-- cells made, slots used, shapes (kind, length), int fields (field, address), reference fields, int elements (address, place), reference elements -/
abbrev Hp : Type := Nat × Nat × (Nat → Nat × Nat) × (Nat → Nat → Int32) × (Nat → Nat → Option Nat) × (Nat → Nat → Int32) × (Nat → Nat → Option Nat)
/-- place of the instruction, the instruction, its links, its constant -/
abbrev Op : Type := Nat × Instr × List Nat × Int
abbrev Rs : Type := Option (Option AV × Hp)
def hN (h : Hp) : Nat := h.1
def hU (h : Hp) : Nat := h.2.1
def hS (h : Hp) : Nat → Nat × Nat := h.2.2.1
def hF (h : Hp) : Nat → Nat → Int32 := h.2.2.2.1
def hG (h : Hp) : Nat → Nat → Option Nat := h.2.2.2.2.1
def hE (h : Hp) : Nat → Nat → Int32 := h.2.2.2.2.2.1
def hQ (h : Hp) : Nat → Nat → Option Nat := h.2.2.2.2.2.2
def up2 {α : Type} (f : Nat → Nat → α) (i j : Nat) (v : α) : Nat → Nat → α := fun x y => if x = i ∧ y = j then v else f x y
def sF (h : Hp) (k a : Nat) (v : Int32) : Hp := (hN h, hU h, hS h, up2 (hF h) k a v, hG h, hE h, hQ h)
def sG (h : Hp) (k a : Nat) (v : Option Nat) : Hp := (hN h, hU h, hS h, hF h, up2 (hG h) k a v, hE h, hQ h)
def sE (h : Hp) (a i : Nat) (v : Int32) : Hp := (hN h, hU h, hS h, hF h, hG h, up2 (hE h) a i v, hQ h)
def sQ (h : Hp) (a i : Nat) (v : Option Nat) : Hp := (hN h, hU h, hS h, hF h, hG h, hE h, up2 (hQ h) a i v)
/-- a new cell: all its places are 0 or null -/
def nw (h : Hp) (kind len slots : Nat) : Hp := (hN h + 1, hU h + slots, (fun a => if a = hN h then (kind, len) else hS h a), (fun k a => if a = hN h then 0 else hF h k a), (fun k a => if a = hN h then none else hG h k a), (fun a i => if a = hN h then 0 else hE h a i), (fun a i => if a = hN h then none else hQ h a i))
/-- n ints of a from sp on come to b from dp on -/
def cpE (h : Hp) (a sp b dp n : Nat) : Hp := (hN h, hU h, hS h, hF h, hG h, (fun x i => if x = b then va_cpy (hE h a) (hE h b) sp dp n i else hE h x i), hQ h)
def ki (k : Nat) : Bool := k == 100 || k == 200
def kb (k : Nat) : Bool := k == 101 || k == 202
def kq (k : Nat) : Bool := Nat.ble 300 k
def ka (k : Nat) : Bool := Nat.ble 100 k
def inb (i : Int32) (n : Nat) : Prop := 0 ≤ i.toInt ∧ i.toInt < (n : Int)
noncomputable def cif (c : Prop) {α : Type} (a b : α) : α := @ite α c (Classical.propDecidable c) a b
theorem cif_t {c : Prop} {α : Type} {a b : α} (h : c) : cif c a b = a := by unfold cif; exact if_pos h
theorem cif_f {c : Prop} {α : Type} {a b : α} (h : ¬ c) : cif c a b = b := by unfold cif; exact if_neg h
def kl (x : Option AV) : Option AV := match x with
  | some (.inr (.inl _)) => none
  | x => x
def lget : LV → Nat → Option AV
  | [], _ => none
  | x :: _, 0 => x
  | _ :: l, n + 1 => lget l n
def lset : LV → Nat → AV → LV
  | [], _, _ => []
  | _ :: l, 0, v => some v :: l
  | x :: l, n + 1, v => (if n = 0 then kl x else x) :: lset l n v
/-- a long takes two places -/
def lsetJ : LV → Nat → Int64 → LV
  | [], _, _ => []
  | _ :: l, 0, v => some (.inr (.inl v)) :: (match l with | [] => [] | _ :: l => none :: l)
  | x :: l, n + 1, v => (if n = 0 then kl x else x) :: lsetJ l n v
def en : Nat → List AV → LV
  | 0, _ => []
  | n + 1, [] => none :: en n []
  | n + 1, .inl x :: l => some (.inl x) :: en n l
  | n + 1, .inr (.inr r) :: l => some (.inr (.inr r)) :: en n l
  | 1, .inr (.inl _) :: _ => [none]
  | n + 2, .inr (.inl x) :: l => some (.inr (.inl x)) :: none :: en n l
def psh (r : Option AV) (st : List AV) : List AV := match r with
  | none => st
  | some v => v :: st
/-- which small numbers an answer's or a field's type holds: 0 int, 1 boolean, 2 reference, 3 byte, 4 char, 5 long -/
def fitT (t : Nat) (v : Int32) : Prop := match t with
  | 0 => True
  | 1 => v = 0 ∨ v = 1
  | 3 => v.toInt8.toInt32 = v
  | 4 => narrow .char (.int v) = .int v
  | _ => False
