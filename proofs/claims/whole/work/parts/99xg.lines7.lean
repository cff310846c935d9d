/-! LINES, 7: the tokens of a tape are tokens -/
theorem kyW_inv {w : Nat} : kyW w = 1 ∨ (3 ≤ kyW w ∧ kyW w ≤ 11 ∧ w = wdL.getD (kyW w - 3) 0) := by
  unfold kyW
  by_cases z0 : w = wdL.getD 0 0
  · rw [if_pos z0]; exact Or.inr ⟨by decide, by decide, z0⟩
  by_cases z1 : w = wdL.getD 1 0
  · rw [if_neg z0, if_pos z1]; exact Or.inr ⟨by decide, by decide, z1⟩
  by_cases z2 : w = wdL.getD 2 0
  · rw [if_neg z0, if_neg z1, if_pos z2]; exact Or.inr ⟨by decide, by decide, z2⟩
  by_cases z3 : w = wdL.getD 3 0
  · rw [if_neg z0, if_neg z1, if_neg z2, if_pos z3]; exact Or.inr ⟨by decide, by decide, z3⟩
  by_cases z4 : w = wdL.getD 4 0
  · rw [if_neg z0, if_neg z1, if_neg z2, if_neg z3, if_pos z4]; exact Or.inr ⟨by decide, by decide, z4⟩
  by_cases z5 : w = wdL.getD 5 0
  · rw [if_neg z0, if_neg z1, if_neg z2, if_neg z3, if_neg z4, if_pos z5]; exact Or.inr ⟨by decide, by decide, z5⟩
  by_cases z6 : w = wdL.getD 6 0
  · rw [if_neg z0, if_neg z1, if_neg z2, if_neg z3, if_neg z4, if_neg z5, if_pos z6]; exact Or.inr ⟨by decide, by decide, z6⟩
  by_cases z7 : w = wdL.getD 7 0
  · rw [if_neg z0, if_neg z1, if_neg z2, if_neg z3, if_neg z4, if_neg z5, if_neg z6, if_pos z7]; exact Or.inr ⟨by decide, by decide, z7⟩
  by_cases z8 : w = wdL.getD 8 0
  · rw [if_neg z0, if_neg z1, if_neg z2, if_neg z3, if_neg z4, if_neg z5, if_neg z6, if_neg z7, if_pos z8]; exact Or.inr ⟨by decide, by decide, z8⟩
  rw [if_neg z0, if_neg z1, if_neg z2, if_neg z3, if_neg z4, if_neg z5, if_neg z6, if_neg z7, if_neg z8]; exact Or.inl rfl
theorem sgW_r (x : Nat) : sgW x = 1 ∨ (12 ≤ sgW x ∧ sgW x ≤ 16) := by
  unfold sgW
  by_cases a : x = 60
  · rw [if_pos a]; decide
  by_cases b : x = 61
  · rw [if_neg a, if_pos b]; decide
  by_cases c : x = 40
  · rw [if_neg a, if_neg b, if_pos c]; decide
  by_cases e : x = 41
  · rw [if_neg a, if_neg b, if_neg c, if_pos e]; decide
  by_cases f : x = 59
  · rw [if_neg a, if_neg b, if_neg c, if_neg e, if_pos f]; decide
  rw [if_neg a, if_neg b, if_neg c, if_neg e, if_neg f]; decide
theorem dgN_hi {b : Nat → Nat} {p : Nat} : ∀ m, (∀ i, i < m → isDg (b (p + i)) = true) → dgN b p m < 10 ^ m := by
  intro m
  induction m with
  | zero => intro _; rw [dgN]; decide
  | succ m ih =>
    intro h
    have h1 := isDg_t (h m (by omega))
    have h2 := ih (fun i hi => h i (by omega))
    rw [dgN, Nat.pow_succ]; omega
/-- a token is one of four sorts -/
theorem tkZ_c {n : Nat} {b : Nat → Nat} {p : Nat} (hp : p ≤ n) : ((tkZ n b p).1 = 0 ∧ p = n) ∨ ((tkZ n b p).1 = 1 ∧ p < n) ∨ ((tkZ n b p).1 = 2 ∧ p < n ∧ (tkZ n b p).2.1 < 1000) ∨ (3 ≤ (tkZ n b p).1 ∧ (tkZ n b p).1 ≤ 11 ∧ p < n ∧ ∃ m, (tkZ n b p).2.2 = p + m ∧ wdL.getD ((tkZ n b p).1 - 3) 0 < 32 ^ m) ∨ (12 ≤ (tkZ n b p).1 ∧ (tkZ n b p).1 ≤ 16 ∧ p < n) := by
  unfold tkZ
  by_cases e : n ≤ p
  · rw [if_pos e]; exact Or.inl ⟨rfl, by omega⟩
  rw [if_neg e]
  cases c : isDg (b p)
  · rw [if_neg (by simp)]
    cases c2 : isLt (b p)
    · rw [if_neg (by simp)]
      rcases sgW_r (b p) with q | q
      · exact Or.inr (Or.inl ⟨q, by omega⟩)
      · exact Or.inr (Or.inr (Or.inr (Or.inr ⟨q.1, q.2, by omega⟩)))
    · rw [if_pos rfl]
      obtain ⟨r1, r2, r3, -⟩ := rnE_s (f := isLt) (b := b) (n - p) p
      rcases kyW_inv (w := ltN b p (rnE isLt b (n - p) p - p)) with q | q
      · exact Or.inr (Or.inl ⟨q, by omega⟩)
      · refine Or.inr (Or.inr (Or.inr (Or.inl ⟨q.1, q.2.1, by omega, rnE isLt b (n - p) p - p, ?_, ?_⟩)))
        · show rnE isLt b (n - p) p = _; omega
        · show wdL.getD (kyW _ - 3) 0 < _
          rw [← q.2.2]
          exact ltN_hi _ (fun i hi => r3 (p + i) (by omega) (by omega))
  · rw [if_pos rfl]
    obtain ⟨r1, r2, r3, -⟩ := rnE_s (f := isDg) (b := b) (n - p) p
    by_cases z : 3 < rnE isDg b (n - p) p - p
    · exact Or.inr (Or.inl ⟨by show (if _ then 1 else 2) = 1; rw [if_pos z], by omega⟩)
    · refine Or.inr (Or.inr (Or.inl ⟨by show (if _ then 1 else 2) = 2; rw [if_neg z], by omega, ?_⟩))
      show dgN b p (rnE isDg b (n - p) p - p) < 1000
      have := dgN_hi (b := b) (p := p) (rnE isDg b (n - p) p - p) (fun i hi => r3 (p + i) (by omega) (by omega))
      have := Nat.pow_le_pow_right (n := 10) (by decide) (show rnE isDg b (n - p) p - p ≤ 3 by omega)
      omega
theorem kdT_16 (n : Nat) (b : Nat → Nat) (j : Nat) : kdT n b j ≤ 16 := by
  have := tkZ_c (b := b) (spT_r n b j).2
  unfold kdT; omega
theorem pw_lt {m k : Nat} {x : Nat} (h : x < 32 ^ m) (hx : 32 ^ k ≤ x) : k < m := by
  by_cases q : k < m
  · exact q
  · have := Nat.pow_le_pow_right (n := 32) (by decide) (show m ≤ k by omega); omega
theorem wd_5 : ∀ k, k < 9 → 1 ≤ wdL.getD k 0 := by decide
theorem tkW_of {n : Nat} {b : Nat → Nat} {c : Nat} (T : TB n b) (hc : spT n b c = n) : tkW (kdT n b) (nuT n b) (psT n b) c := by
  have n160 := T.1
  have tc := fun j => tkZ_c (b := b) (spT_r n b j).2
  have wd : ∀ j k, kdT n b j - 3 = k → 3 ≤ kdT n b j → kdT n b j ≤ 11 → ∃ m, psT n b (j + 1) = spT n b j + m ∧ wdL.getD k 0 < 32 ^ m := by
    intro j k e h3 h11
    rcases tc j with q | q | q | q | q
    · unfold kdT at h3; omega
    · unfold kdT at h3; omega
    · unfold kdT at h3; omega
    · obtain ⟨-, -, -, m, h1, h2⟩ := q
      exact ⟨m, h1, by rw [← e]; exact h2⟩
    · unfold kdT at h11; omega
  have mono : ∀ j, psT n b j ≤ psT n b (j + 1) := fun j => Nat.le_trans (spT_r n b j).1 (psT_up n b j).1
  refine ⟨?_, Nat.le_trans (psT_le n b c) n160, mono, fun j hj => ?_, fun j hj => ?_, fun j h8 h11 => ?_, fun j hj => ?_, fun j hj => ?_⟩
  · unfold kdT; rw [hc]; unfold tkZ; rw [if_pos (Nat.le_refl _)]
  · obtain ⟨m, h1, h2⟩ := wd j 3 (by omega) (by omega) (by omega)
    have := pw_lt (k := 1) h2 (by decide)
    have := (spT_r n b j).1; omega
  · rcases hj with hj | hj
    · obtain ⟨m, h1, h2⟩ := wd j 2 (by omega) (by omega) (by omega)
      have := pw_lt (k := 2) h2 (by decide)
      have := (spT_r n b j).1; omega
    · obtain ⟨m, h1, h2⟩ := wd j 4 (by omega) (by omega) (by omega)
      have := pw_lt (k := 2) h2 (by decide)
      have := (spT_r n b j).1; omega
  · obtain ⟨m, h1, h2⟩ := wd j (kdT n b j - 3) rfl (by omega) (by omega)
    have q : ∀ k, k < 9 → 5 ≤ k → 32 ^ 3 ≤ wdL.getD k 0 := by decide
    have := pw_lt (k := 3) h2 (q _ (by omega) (by omega))
    have := (spT_r n b j).1; omega
  · have sp := spT_r n b j
    have pl : spT n b j < n := by
      rcases tc j with q | q | q | q | q
      · exact absurd q.1 hj
      · exact q.2
      · exact q.2.1
      · exact q.2.2.1
      · exact q.2.2
    have := (psT_up n b j).2 pl
    omega
  · rcases tc j with q | q | q | q | q
    · unfold kdT at hj; omega
    · unfold kdT at hj; omega
    · exact q.2.2
    · unfold kdT at hj; omega
    · unfold kdT at hj; omega
