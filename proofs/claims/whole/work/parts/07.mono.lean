/-! THE SMALL MACHINE, 3: what a step can be; more fuel, the same answer -/
def StpK (d m : Nat) (i : Instr) (lk : List Nat) (z : Int) (ops : List Op) (ls : LV) (st : List AV) (h : Hp) (ops' : List Op) (ls' : LV) (st' : List AV) (h' : Hp) : Prop :=
  ∀ cl k, stp cl k d m i lk z ops ls st h = k ops' ls' st' h'
def StpC (d m : Nat) (i : Instr) (lk : List Nat) (z : Int) (ops : List Op) (ls : LV) (st : List AV) (h : Hp) (y : Nat) (as rest : List AV) : Prop :=
  ∀ cl k, stp cl k d m i lk z ops ls st h = (cl y as h).bind fun q => k ops ls (psh q.1 rest) q.2
def StpR (d m : Nat) (i : Instr) (lk : List Nat) (z : Int) (ops : List Op) (ls : LV) (st : List AV) (h : Hp) (v : Option AV) : Prop :=
  ∀ cl k, stp cl k d m i lk z ops ls st h = some (v, h)
set_option maxHeartbeats 4000000 in
theorem stp_inv {cl : Nat → List AV → Hp → Rs} {k : List Op → LV → List AV → Hp → Rs} {d m : Nat} {i : Instr} {lk : List Nat} {z : Int} {ops : List Op} {ls : LV} {st : List AV} {h : Hp} {r : Option AV × Hp} (hr : stp cl k d m i lk z ops ls st h = some r) :
    (∃ ops' ls' st' h', StpK d m i lk z ops ls st h ops' ls' st' h' ∧ hN h ≤ hN h' ∧ hU h ≤ hU h') ∨ (∃ y as rest, StpC d m i lk z ops ls st h y as rest) ∨ ∃ v, StpR d m i lk z ops ls st h v := by
  unfold stp at hr
  repeat' split at hr
  all_goals first
    | exact absurd hr.symm (Option.some_ne_none _)
    | exact Or.inl ⟨_, _, _, _, fun _ _ => rfl, Nat.le_refl _, Nat.le_refl _⟩
    | exact Or.inl ⟨_, _, _, _, fun _ _ => rfl, Nat.le_succ _, Nat.le_add_right _ _⟩
    | exact Or.inr (Or.inr ⟨_, fun _ _ => rfl⟩)
    | exact Or.inl ⟨_, _, _, _, fun _ _ => gd_t (gd_some hr).1, Nat.le_refl _, Nat.le_refl _⟩
    | exact Or.inl ⟨_, _, _, _, fun _ _ => gd_t (gd_some hr).1, Nat.le_succ _, Nat.le_add_right _ _⟩
    | exact Or.inr (Or.inr ⟨_, fun _ _ => gd_t (gd_some hr).1⟩)
    | exact Or.inr (Or.inl ⟨_, _, _, fun _ _ => gd_t (gd_some hr).1⟩)
    | (rename_i j v _ x heq; have hh : k ops (lset ls j (.inl (x + Int32.ofInt v))) st h = some r := hr; exact Or.inl ⟨ops, lset ls j (.inl (x + Int32.ofInt v)), st, h, fun _ _ => by unfold stp; simp only [heq], Nat.le_refl _, Nat.le_refl _⟩)
    | (rename_i x heq; exact Or.inl ⟨ops, ls, .inl x :: st, h, fun _ _ => by unfold stp; simp only [heq], Nat.le_refl _, Nat.le_refl _⟩)
    | (rename_i x heq; exact Or.inl ⟨ops, ls, .inr (.inl x) :: st, h, fun _ _ => by unfold stp; simp only [heq], Nat.le_refl _, Nat.le_refl _⟩)
    | (rename_i x heq; exact Or.inl ⟨ops, ls, .inr (.inr x) :: st, h, fun _ _ => by unfold stp; simp only [heq], Nat.le_refl _, Nat.le_refl _⟩)
    | (rename_i y j c _ _ _ a rest heq; exact Or.inr (Or.inl ⟨y, .inr (.inr (some a)) :: (st.take (j - 1)).reverse, rest, fun _ _ => by unfold stp; simp only [heq]; exact gd_t (gd_some hr).1⟩))
