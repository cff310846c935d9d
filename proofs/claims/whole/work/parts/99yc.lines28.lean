/-! LINES, 28: the call that keeps the lines -/
theorem rln_cg {st en tk lo co lo' co' : Nat → Int32} {sz ln : Int32} (h : rln st en tk sz ln lo co) (h1 : ∀ k, k < 36 → lo' k = lo k) (h2 : ∀ k, k < 180 → co' k = co k) : rln st en tk sz ln lo' co' := by
  obtain ⟨nl, ends, a1, a2, a3, a4, a5, a6, a7, a8⟩ := h
  refine ⟨nl, ends, a1, a2, a3, a4, a5, a6, fun l hl => ?_, fun k hk => ?_⟩
  · rw [h1 (3 * l) (by omega), h1 (3 * l + 1) (by omega), h1 (3 * l + 2) (by omega)]
    exact a7 l hl
  · rw [h2 (3 * k) (by omega), h2 (3 * k + 1) (by omega), h2 (3 * k + 2) (by omega)]
    exact a8 k hk
theorem cp_in {src dst : Nat → Int32} {dp n k : Nat} (h : k < n) : va_cpy src dst 0 dp n (dp + k) = src k := by
  unfold va_cpy
  rw [if_pos (by omega)]
  congr 1; omega
theorem cp_out {src dst : Nat → Int32} {dp n k : Nat} (h : k < dp ∨ dp + n ≤ k) : va_cpy src dst 0 dp n k = dst k := by
  unfold va_cpy
  rw [if_neg (by omega)]
/-- the hands behind an exchange -/
theorem iH_ex {nH i a x p N : Nat} {cc tc : Int32} {q : Nat → Option Nat} {S : Nat → Nat × Nat} {fsp esp eln eln' : Nat → Int32} {gp gp' g1 g2 g3 : Nat → Option Nat} (V : iH nH cc tc q S N fsp esp eln gp g1 g2 g3 (some p)) (hi : i < nH) (ha : q i = some a) (hx : gp a = some x) (hg : ∀ y, gp' y = if y = a then some p else gp y) (hl : ∀ j, nH ≤ j → eln' j = eln j) : iH nH cc tc q S N fsp esp eln' gp' g1 g2 g3 (some x) := by
  obtain ⟨c1, c2, c3, c4, c5, c6, c7, ⟨p', c8, c9, c10⟩, c11, c12⟩ := V
  cases c8
  obtain ⟨-, -, -, -, -, x', x1, x2⟩ := c4 i a ha
  rw [hx] at x1; cases x1
  have ne : x ≠ p := fun w => c10 i a ha (by rw [hx, w])
  have inj : ∀ j b, q j = some b → b = a → j = i := fun j b hb e => c6 j i a (by rw [hb, e]) ha
  refine ⟨c1, c2, c3, fun j b hb => ?_, c5, c6, fun j l b b' y h1 h2 h3 h4 => ?_, ⟨x, rfl, x2, fun j b hb => ?_⟩, c11, fun j h1 h2 => ?_⟩
  · obtain ⟨y1, y2, y3, y4, y5, y, y6, y7⟩ := c4 j b hb
    refine ⟨y1, y2, y3, y4, y5, ?_⟩
    rw [hg]
    by_cases e : b = a
    · rw [if_pos e]; exact ⟨p, rfl, c9⟩
    · rw [if_neg e]; exact ⟨y, y6, y7⟩
  · rw [hg] at h3 h4
    by_cases e : b = a
    · by_cases e' : b' = a
      · rw [inj j b h1 e, inj l b' h2 e']
      · rw [if_pos e] at h3
        rw [if_neg e'] at h4
        cases h3
        exact absurd h4 (c10 l b' h2)
    · by_cases e' : b' = a
      · rw [if_neg e] at h3
        rw [if_pos e'] at h4
        cases h4
        exact absurd h3 (c10 j b h1)
      · rw [if_neg e] at h3
        rw [if_neg e'] at h4
        exact c7 j l b b' y h1 h2 h3 h4
  · rw [hg]
    by_cases e : b = a
    · rw [if_pos e]; intro w; cases w; exact ne rfl
    · rw [if_neg e]
      intro w
      have := c7 j i b a x hb ha w hx
      subst this
      rw [hb] at ha; cases ha; exact e rfl
  · rw [hl j h1]; exact c12 j h1 h2
