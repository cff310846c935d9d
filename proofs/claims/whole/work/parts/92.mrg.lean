/-! TWO HEAPS AS ONE: the class's cells of h, the reference's of g -/
def mrg (h g : Hp) : Hp := (hN h, hU h, hS h, (fun k x => if x = 103 then hF g k x else hF h k x), hG h, (fun x j => if 104 ≤ x ∧ x < 151 then hE g x j else hE h x j), hQ h)
theorem xN_mrg (h g : Hp) : hN (mrg h g) = hN h := id rfl
theorem xU_mrg (h g : Hp) : hU (mrg h g) = hU h := id rfl
theorem xS_mrg (h g : Hp) : hS (mrg h g) = hS h := id rfl
theorem xG_mrg (h g : Hp) : hG (mrg h g) = hG h := id rfl
theorem xQ_mrg (h g : Hp) : hQ (mrg h g) = hQ h := id rfl
theorem hF_mrg (h g : Hp) (k x : Nat) : hF (mrg h g) k x = if x = 103 then hF g k x else hF h k x := id rfl
theorem hE_mrg (h g : Hp) (x j : Nat) : hE (mrg h g) x j = if 104 ≤ x ∧ x < 151 then hE g x j else hE h x j := id rfl
theorem mrg_F1 {h g : Hp} {k : Nat} : hF (mrg h g) k 103 = hF g k 103 := by rw [hF_mrg, if_pos rfl]
theorem mrg_F2 {h g : Hp} {k x : Nat} (hx : x ≠ 103) : hF (mrg h g) k x = hF h k x := by rw [hF_mrg, if_neg hx]
theorem mrg_E1 {h g : Hp} {x : Nat} (h1 : 104 ≤ x) (h2 : x < 151) : hE (mrg h g) x = hE g x := by
  funext j; rw [hE_mrg, if_pos ⟨h1, h2⟩]
theorem mrg_E2 {h g : Hp} {x : Nat} (h1 : x < 104 ∨ 151 ≤ x) : hE (mrg h g) x = hE h x := by
  funext j; rw [hE_mrg, if_neg (by omega)]
theorem mrg_eD {h g : Hp} : eD (mrg h g) = eD h := by
  funext x j
  unfold eD
  by_cases ha : x < 86 ∨ 89 ≤ x ∧ x < 151
  · rw [if_pos ha, if_pos ha]
  · rw [if_neg ha, if_neg ha, hE_mrg, if_neg (by omega)]
theorem mrg_qD {h g : Hp} : qD (mrg h g) = qD h := by
  funext x
  unfold qD
  rw [xQ_mrg]
theorem mrg_id (h : Hp) : mrg h h = h := by
  refine hp_ext rfl rfl rfl ?_ rfl ?_ rfl
  · funext k x; rw [hF_mrg]; split <;> rfl
  · funext x j; rw [hE_mrg]; split <;> rfl
/-- the same cells on the reference's side -/
def sameM (g g' : Hp) : Prop := (∀ k, hF g k 103 = hF g' k 103) ∧ ∀ x, 104 ≤ x → x < 151 → hE g x = hE g' x
theorem mrg_same {h g g' : Hp} (s : sameM g g') : mrg h g = mrg h g' := by
  refine hp_ext rfl rfl rfl ?_ rfl ?_ rfl
  · funext k x; rw [hF_mrg, hF_mrg]; split
    · rename_i e; rw [e]; exact s.1 k
    · rfl
  · funext x j; rw [hE_mrg, hE_mrg]; split
    · rename_i e; rw [s.2 x e.1 e.2]
    · rfl
