/-! THE PLAN, 6: first hours -/
/-- the first of c .. c + m - 1 with f -/
def fdN (f : Nat → Bool) : Nat → Nat → Option Nat
  | _, 0 => none
  | c, m + 1 => if f c then some c else fdN f (c + 1) m
theorem fdN_a {f : Nat → Bool} {c : Nat} : ∀ m a, c ≤ a → (List.range' a m).find? (fun hh => decide (c ≤ hh) && f hh) = fdN f a m := by
  intro m
  induction m with
  | zero => intro a _; rfl
  | succ m ih =>
    intro a ha
    rw [List.range'_succ, List.find?_cons, fdN, ih (a + 1) (by omega)]
    have e : decide (c ≤ a) = true := decide_eq_true ha
    rw [e, Bool.true_and]
    cases f a <;> rfl
theorem fdN_b {f : Nat → Bool} {c : Nat} : ∀ m a, a ≤ c → c ≤ a + m → (List.range' a m).find? (fun hh => decide (c ≤ hh) && f hh) = fdN f c (a + m - c) := by
  intro m
  induction m with
  | zero => intro a h1 h2; rw [show a + 0 - c = 0 by omega]; rfl
  | succ m ih =>
    intro a h1 h2
    by_cases e : a = c
    · subst e
      rw [show a + (m + 1) - a = m + 1 by omega]
      exact fdN_a (m + 1) a (Nat.le_refl _)
    · rw [List.range'_succ, List.find?_cons]
      have e2 : decide (c ≤ a) = false := decide_eq_false (by omega)
      rw [e2, Bool.false_and, ih (a + 1) (by omega) (by omega), show a + 1 + m - c = a + (m + 1) - c by omega]
theorem fdN_find {f : Nat → Bool} {N c : Nat} (h : c ≤ N) : (List.range N).find? (fun hh => decide (c ≤ hh) && f hh) = fdN f c (N - c) := by
  have := fdN_b (f := f) (c := c) N 0 (by omega) (by omega)
  rw [List.range_eq_range', this, show 0 + N - c = N - c by omega]
theorem fdN_s {f : Nat → Bool} : ∀ m c h, fdN f c m = some h → c ≤ h ∧ h < c + m ∧ f h = true := by
  intro m
  induction m with
  | zero => intro c h q; cases q
  | succ m ih =>
    intro c h q
    rw [fdN] at q
    cases e : f c
    · rw [e] at q
      have := ih (c + 1) h q
      exact ⟨by omega, by omega, this.2.2⟩
    · rw [e] at q; cases q; exact ⟨by omega, by omega, e⟩
theorem fdN_e {f : Nat → Bool} : ∀ m c x, c ≤ x → x < c + m → f x = true → ∃ h, h ≤ x ∧ fdN f c m = some h := by
  intro m
  induction m with
  | zero => intro c x h1 h2; omega
  | succ m ih =>
    intro c x h1 h2 hx
    rw [fdN]
    cases e : f c
    · by_cases q : x = c
      · rw [q, e] at hx; cases hx
      · exact ih (c + 1) x (by omega) (by omega) hx
    · exact ⟨c, h1, rfl⟩
section MK
variable {nS nC : Nat} {sp : Int32} {ex ey ew ef et el ea eF ekind est edep ebeg ebot : Nat → Int32}
/-- can a station begin in an hour -/
def cnP (P : PI) (ef et el eF : Nat → Int32) (i hh : Nat) : Bool := cnB ef et el eF (P.2.2.2.1 i) i hh
theorem mk_fst {i c : Nat} (h : c ≤ 201) : (mkP nS nC sp ex ey ew ef et el ea eF ekind est edep ebeg ebot).2.2.2.2.2 i c = fdN (cnP (mkP nS nC sp ex ey ew ef et el ea eF ekind est edep ebeg ebot) ef et el eF i) c (201 - c) := fdN_find h
theorem mk_hi {i c : Nat} (h : 200 < c) : (mkP nS nC sp ex ey ew ef et el ea eF ekind est edep ebeg ebot).2.2.2.2.2 i c = none := by
  unfold mkP
  simp only [List.find?_eq_none]
  intro x hx
  have := List.mem_range.mp hx
  simp only [Bool.and_eq_true, decide_eq_true_eq, not_and]
  intro w; omega
theorem mk_s {i c h : Nat} (q : (mkP nS nC sp ex ey ew ef et el ea eF ekind est edep ebeg ebot).2.2.2.2.2 i c = some h) : c ≤ 200 ∧ c ≤ h ∧ h ≤ 200 ∧ cnP (mkP nS nC sp ex ey ew ef et el ea eF ekind est edep ebeg ebot) ef et el eF i h = true := by
  by_cases hc : 200 < c
  · rw [mk_hi hc] at q; cases q
  · rw [mk_fst (by omega)] at q
    obtain ⟨a1, a2, a3⟩ := fdN_s _ _ _ q
    exact ⟨by omega, a1, by omega, a3⟩
theorem mk_mn : mnP (mkP nS nC sp ex ey ew ef et el ea eF ekind est edep ebeg ebot) := by
  intro i c c' h hc q
  obtain ⟨a1, a2, a3, a4⟩ := mk_s q
  rw [mk_fst (by omega)]
  exact fdN_e _ _ _ (by omega) (by omega) a4
theorem cnB_201 {L s hh : Nat} (h : cnB ef et el eF L s hh = true) : hh + L ≤ 201 := by
  unfold cnB at h
  simp only [Bool.and_eq_true, decide_eq_true_eq] at h
  exact h.1.1.1.1
theorem mk_201 {i c h : Nat} (q : (mkP nS nC sp ex ey ew ef et el ea eF ekind est edep ebeg ebot).2.2.2.2.2 i c = some h) : h + (mkP nS nC sp ex ey ew ef et el ea eF ekind est edep ebeg ebot).2.2.2.1 i ≤ 201 := cnB_201 (mk_s q).2.2.2
end MK
/-- how many fit hours stand in a row from hour 201 - k on -/
def frn (eF : Nat → Int32) : Nat → Nat
  | 0 => 0
  | k + 1 => if eF (200 - k) ≠ 0 then frn eF k + 1 else 0
theorem frn_le (eF : Nat → Int32) : ∀ k, frn eF k ≤ k := by
  intro k
  induction k with
  | zero => exact Nat.le_refl _
  | succ k ih => rw [frn]; split <;> omega
theorem frn_iff {eF : Nat → Int32} : ∀ k, k ≤ 201 → ∀ L, 1 ≤ L → (L ≤ frn eF k ↔ L ≤ k ∧ ∀ x, x < L → eF (201 - k + x) ≠ 0) := by
  intro k
  induction k with
  | zero => intro _ L h1; rw [frn]; constructor <;> intro h <;> omega
  | succ k ih =>
    intro hk L h1
    rw [frn]
    by_cases e : eF (200 - k) ≠ 0
    · rw [if_pos e]
      by_cases l1 : L = 1
      · subst l1
        constructor
        · intro _
          refine ⟨by omega, fun x hx => ?_⟩
          rw [show 201 - (k + 1) + x = 200 - k by omega]; exact e
        · intro _; omega
      · have ih := ih (by omega) (L - 1) (by omega)
        constructor
        · intro h
          obtain ⟨a1, a2⟩ := ih.mp (by omega)
          refine ⟨by omega, fun x hx => ?_⟩
          by_cases x0 : x = 0
          · rw [show 201 - (k + 1) + x = 200 - k by omega]; exact e
          · have := a2 (x - 1) (by omega)
            rwa [show 201 - k + (x - 1) = 201 - (k + 1) + x by omega] at this
        · intro ⟨a1, a2⟩
          have := ih.mpr ⟨by omega, fun x hx => by
            have := a2 (x + 1) (by omega)
            rwa [show 201 - (k + 1) + (x + 1) = 201 - k + x by omega] at this⟩
          omega
    · rw [if_neg e]
      constructor
      · intro h; omega
      · intro ⟨a1, a2⟩
        have := a2 0 (by omega)
        rw [show 201 - (k + 1) + 0 = 200 - k by omega] at this
        exact absurd this e
def litB (l : Int32) (hh : Nat) : Bool := decide (l = 0) || (decide (l = 1) == (decide (6 ≤ hh % 24) && decide (hh % 24 ≤ 17)))
theorem cnB_class {ef et el eF : Nat → Int32} {L s hh : Nat} (h1 : 1 ≤ L) (h2 : hh ≤ 200) : cnB ef et el eF L s hh = true ↔ L ≤ frn eF (201 - hh) ∧ tN (ef s) ≤ hh ∧ hh + L ≤ tN (et s) + 1 ∧ litB (el s) hh = true := by
  rw [frn_iff _ (by omega) _ h1]
  unfold cnB litB
  simp only [Bool.and_eq_true, decide_eq_true_eq, List.all_eq_true, List.mem_range]
  rw [show 201 - (201 - hh) = hh by omega]
  constructor
  · rintro ⟨⟨⟨⟨a1, a2⟩, a3⟩, a4⟩, a5⟩; exact ⟨⟨by omega, a5⟩, a2, a3, a4⟩
  · rintro ⟨⟨a1, a5⟩, a2, a3, a4⟩; exact ⟨⟨⟨⟨by omega, a2⟩, a3⟩, a4⟩, a5⟩
theorem sh_3 : ∀ S, S < 256 → ∀ i, i < 8 → Int32.ofNat S ||| ((0 : Int32) <<< (Int32.ofNat i &&& 31)) = Int32.ofNat S := by decide +kernel
theorem md_24 : ∀ hh, hh < 201 → Int32.ofNat hh - Int32.ofNat hh / 24 * 24 = Int32.ofNat (hh % 24) := by decide +kernel
