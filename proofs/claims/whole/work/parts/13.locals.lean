/-! SOUNDNESS, 4: locals, the context, and the instructions that leave the heap (written by wip/whole/mk13.py) -/
def lvl (g : Nat → Nat) : Nat → LV → List (Nat × Value)
  | _, [] => []
  | i, none :: l => lvl g (i + 1) l
  | i, some v :: l => (i, cv g v) :: lvl g (i + 1) l
theorem lvl_mem {g : Nat → Nat} : ∀ (l : LV) (i : Nat) (q : Nat × Value), q ∈ lvl g i l ↔ ∃ j v, lget l j = some v ∧ q = (i + j, cv g v) := by
  intro l
  induction l with
  | nil => intro i q; simp [lvl, lget]
  | cons x l ih =>
    intro i q
    cases x with
    | none =>
      simp only [lvl, ih]
      constructor
      · rintro ⟨j, v, h1, h2⟩; exact ⟨j + 1, v, h1, by rw [h2]; congr 1; omega⟩
      · rintro ⟨j, v, h1, h2⟩
        cases j with
        | zero => cases h1
        | succ j => exact ⟨j, v, h1, by rw [h2]; congr 1; omega⟩
    | some w =>
      simp only [lvl, List.mem_cons, ih]
      constructor
      · rintro (h | ⟨j, v, h1, h2⟩)
        · exact ⟨0, w, rfl, by rw [h]; rfl⟩
        · exact ⟨j + 1, v, h1, by rw [h2]; congr 1; omega⟩
      · rintro ⟨j, v, h1, h2⟩
        cases j with
        | zero => left; cases h1; exact h2
        | succ j => right; exact ⟨j, v, h1, by rw [h2]; congr 1; omega⟩
theorem kl_some {x : Option AV} {w : AV} (h : kl x = some w) : x = some w ∧ ∀ z, w ≠ .inr (.inl z) := by
  rcases x with _ | (x | x | x)
  · cases h
  · cases h; exact ⟨rfl, fun z q => by cases q⟩
  · cases h
  · cases h; exact ⟨rfl, fun z q => by cases q⟩
theorem lget_lset : ∀ (l : LV) (i j : Nat) (v w : AV), lget (lset l i v) j = some w → (j = i ∧ w = v) ∨ (j ≠ i ∧ lget l j = some w ∧ ¬ (j + 1 = i ∧ ∃ z, w = .inr (.inl z))) := by
  intro l
  induction l with
  | nil => intro i j v w h; cases h
  | cons x l ih =>
    intro i j v w h
    cases i with
    | zero =>
      cases j with
      | zero => left; cases h; exact ⟨rfl, rfl⟩
      | succ j => right; exact ⟨by omega, h, fun q => by omega⟩
    | succ n =>
      cases j with
      | zero =>
        right
        have h' : (if n = 0 then kl x else x) = some w := h
        by_cases hn : n = 0
        · rw [if_pos hn] at h'
          obtain ⟨h1, h2⟩ := kl_some h'
          exact ⟨by omega, h1, fun q => by obtain ⟨z, hz⟩ := q.2; exact h2 z hz⟩
        · rw [if_neg hn] at h'
          exact ⟨by omega, h', fun q => by omega⟩
      | succ j =>
        rcases ih n j v w h with ⟨h1, h2⟩ | ⟨h1, h2, h3⟩
        · left; exact ⟨by omega, h2⟩
        · right; exact ⟨by omega, h2, fun q => h3 ⟨by omega, q.2⟩⟩
theorem lset_len : ∀ (l : LV) (i : Nat) (v : AV), (lset l i v).length = l.length := by
  intro l
  induction l with
  | nil => intro i v; rfl
  | cons x l ih =>
    intro i v
    cases i with
    | zero => rfl
    | succ n => simp [lset, ih]
theorem lget_lsetJ : ∀ (l : LV) (i j : Nat) (v : Int64) (w : AV), i + 1 < l.length → lget (lsetJ l i v) j = some w → (j = i ∧ w = .inr (.inl v)) ∨ (j ≠ i ∧ j ≠ i + 1 ∧ lget l j = some w ∧ ¬ (j + 1 = i ∧ ∃ z, w = .inr (.inl z))) := by
  intro l
  induction l with
  | nil => intro i j v w hl h; cases h
  | cons x l ih =>
    intro i j v w hl h
    cases i with
    | zero =>
      cases l with
      | nil => simp at hl
      | cons x2 l =>
        cases j with
        | zero => left; cases h; exact ⟨rfl, rfl⟩
        | succ j =>
          cases j with
          | zero => cases h
          | succ j => right; exact ⟨by omega, by omega, h, fun q => by omega⟩
    | succ n =>
      cases j with
      | zero =>
        right
        have h' : (if n = 0 then kl x else x) = some w := h
        by_cases hn : n = 0
        · rw [if_pos hn] at h'
          obtain ⟨h1, h2⟩ := kl_some h'
          exact ⟨by omega, by omega, h1, fun q => by obtain ⟨z, hz⟩ := q.2; exact h2 z hz⟩
        · rw [if_neg hn] at h'
          exact ⟨by omega, by omega, h', fun q => by omega⟩
      | succ j =>
        rcases ih n j v w (by simp at hl; omega) h with ⟨h1, h2⟩ | ⟨h1, h0, h2, h3⟩
        · left; exact ⟨by omega, h2⟩
        · right; exact ⟨by omega, by omega, h2, fun q => h3 ⟨by omega, q.2⟩⟩
theorem lsetJ_len : ∀ (l : LV) (i : Nat) (v : Int64), (lsetJ l i v).length = l.length := by
  intro l
  induction l with
  | nil => intro i v; rfl
  | cons x l ih =>
    intro i v
    cases i with
    | zero => cases l <;> rfl
    | succ n => simp [lsetJ, ih]
def lrel (g : Nat → Nat) (nL : Nat) (l : LV) (ls : Array Slot) : Prop := l.length = nL ∧ lv_has ls nL (lvl g 0 l)
theorem lrel.at {g : Nat → Nat} {nL : Nat} {l : LV} {ls : Array Slot} (h : lrel g nL l ls) {j : Nat} {v : AV} (hv : lget l j = some v) : ls[j]? = some (.val (cv g v)) := by
  have := h.2.2.2 (0 + j, cv g v) ((lvl_mem l 0 _).mpr ⟨j, v, hv, rfl⟩)
  rw [Nat.zero_add] at this
  exact this
theorem cv_cat2 {g : Nat → Nat} {w : AV} (h : (cv g w).category = 2) : ∃ z, w = .inr (.inl z) := by
  rcases w with x | x | x
  · cases h
  · exact ⟨x, rfl⟩
  · cases x <;> cases h
theorem lrel.st {g : Nat → Nat} {nL i : Nat} {l : LV} {ls' : Array Slot} {v : AV} (hl : l.length = nL) (h : lv_has ls' nL ((i, cv g v) :: (lvl g 0 l).filter (fun q => !(q.1 == i) && !(q.1 + 1 == i && q.2.category == 2)))) : lrel g nL (lset l i v) ls' := by
  refine ⟨by rw [lset_len, hl], h.1, h.2.1, fun q hq => h.2.2 q ?_⟩
  obtain ⟨j, w, h1, rfl⟩ := (lvl_mem _ _ _).mp hq
  rw [Nat.zero_add]
  rcases lget_lset l i j v w h1 with ⟨e1, e2⟩ | ⟨e1, e2, e3⟩
  · rw [e1, e2]; exact List.mem_cons_self
  · refine List.mem_cons_of_mem _ (List.mem_filter.mpr ⟨(lvl_mem _ _ _).mpr ⟨j, w, e2, by rw [Nat.zero_add]⟩, ?_⟩)
    have n1 : ¬ ((j == i) = true) := fun q => e1 (by simpa using q)
    have n2 : ¬ ((j + 1 == i && (cv g w).category == 2) = true) := fun q => by
      rw [Bool.and_eq_true] at q
      exact e3 ⟨by simpa using q.1, cv_cat2 (by simpa using q.2)⟩
    simp only [Bool.not_eq_true] at n1 n2
    simp only [n1, n2, Bool.not_false, Bool.and_self]
theorem lrel.stJ {g : Nat → Nat} {nL i : Nat} {l : LV} {ls' : Array Slot} {v : Int64} (hl : l.length = nL) (hi : i + 1 < nL) (h : lv_has ls' nL ((i, Value.long v) :: (lvl g 0 l).filter (fun q => !(q.1 == i) && (!(q.1 == i + 1) && !(q.1 + 1 == i && q.2.category == 2))))) : lrel g nL (lsetJ l i v) ls' := by
  refine ⟨by rw [lsetJ_len, hl], h.1, h.2.1, fun q hq => h.2.2 q ?_⟩
  obtain ⟨j, w, h1, rfl⟩ := (lvl_mem _ _ _).mp hq
  rw [Nat.zero_add]
  rcases lget_lsetJ l i j v w (by omega) h1 with ⟨e1, e2⟩ | ⟨e1, e0, e2, e3⟩
  · rw [e1, e2]; exact List.mem_cons_self
  · refine List.mem_cons_of_mem _ (List.mem_filter.mpr ⟨(lvl_mem _ _ _).mpr ⟨j, w, e2, by rw [Nat.zero_add]⟩, ?_⟩)
    have n1 : ¬ ((j == i) = true) := fun q => e1 (by simpa using q)
    have n0 : ¬ ((j == i + 1) = true) := fun q => e0 (by simpa using q)
    have n2 : ¬ ((j + 1 == i && (cv g w).category == 2) = true) := fun q => by
      rw [Bool.and_eq_true] at q
      exact e3 ⟨by simpa using q.1, cv_cat2 (by simpa using q.2)⟩
    simp only [Bool.not_eq_true] at n1 n2 n0
    simp only [n1, n0, n2, Bool.not_false, Bool.and_self]
/-! entry -/
theorem en_len : ∀ (n : Nat) (as : List AV), (en n as).length = n := by
  intro n
  induction n using Nat.strongRecOn with
  | ind n ih =>
    intro as
    match n, as with
    | 0, _ => rfl
    | n + 1, [] => rw [ent_0, List.length_cons, ih n (by omega)]
    | n + 1, .inl x :: l => rw [ent_i, List.length_cons, ih n (by omega)]
    | n + 1, .inr (.inr x) :: l => rw [ent_r, List.length_cons, ih n (by omega)]
    | 1, .inr (.inl x) :: l => rfl
    | n + 2, .inr (.inl x) :: l => rw [ent_j, List.length_cons, List.length_cons, ih n (by omega)]
theorem lvl_none {g : Nat → Nat} : ∀ (n i : Nat), lvl g i (en n []) = [] := by
  intro n
  induction n with
  | zero => intro i; rfl
  | succ n ih => intro i; rw [ent_0]; exact ih (i + 1)
theorem en_sub {g : Nat → Nat} : ∀ (as : List AV) (n i : Nat), ∀ q ∈ lvl g i (en n as), q ∈ lv_args i (as.map (cv g)) := by
  intro as
  induction as with
  | nil => intro n i q hq; rw [lvl_none] at hq; cases hq
  | cons v as ih =>
    intro n i q hq
    cases n with
    | zero => cases hq
    | succ n =>
      rcases v with x | x | x
      · rw [ent_i] at hq
        rcases List.mem_cons.mp hq with h | h
        · rw [h]; exact List.mem_cons_self
        · exact List.mem_cons_of_mem _ (ih n (i + 1) q h)
      · cases n with
        | zero => cases hq
        | succ n =>
          rw [ent_j] at hq
          rcases List.mem_cons.mp hq with h | h
          · rw [h]; exact List.mem_cons_self
          · exact List.mem_cons_of_mem _ (ih n (i + 2) q h)
      · rw [ent_r] at hq
        rcases List.mem_cons.mp hq with h | h
        · rw [h]; exact List.mem_cons_self
        · refine List.mem_cons_of_mem _ ?_
          have := ih n (i + 1) q h
          cases x <;> exact this
theorem aw_len {g : Nat → Nat} : ∀ (as : List AV), (lg_sl (as.map (cv g))).length = aw as := by
  intro as
  induction as with
  | nil => rfl
  | cons v as ih =>
    rcases v with x | x | x
    · simp only [List.map_cons, cv, lg_sl, aw, ← ih]; simp [Value.category]
    · simp only [List.map_cons, cv, lg_sl, aw, ← ih]; simp [Value.category]
    · cases x <;> (simp only [List.map_cons, cv, lg_sl, aw, ← ih]; simp [Value.category, va_rf])
theorem lrel_en {g : Nat → Nat} {n : Nat} {as : List AV} (h : aw as ≤ n) : lrel g n (en n as) ((lg_sl (as.map (cv g)) ++ List.replicate (n - (lg_sl (as.map (cv g))).length) Slot.unset).toArray) := by
  have hl := lv_entry (as.map (cv g)) (n := n) (by rw [aw_len]; exact h)
  exact ⟨en_len n as, hl.1, hl.2.1, fun q hq => hl.2.2 q (en_sub as n 0 q hq)⟩

