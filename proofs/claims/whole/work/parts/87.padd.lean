/-! PLACES with one sample more; a bottle with less in it -/
theorem n_m1 {p : Nat} (h : p < 2147483648) : ¬ Int32.ofNat p = -1 := by
  intro w
  have := congrArg Int32.toInt w
  rw [tn_i h] at this
  have e : (-1 : Int32).toInt = -1 := rfl
  omega
theorem iP_add {nM : Nat} {pl pl' epl est epl' est' : Nat → Int32} (h250 : nM < 250) (H : iP nM pl epl est) (he : ∀ j, j ≠ nM → epl' j = epl j ∧ est' j = est j) (h0 : est' nM = 0)
    (hc : (epl' nM = -1 ∧ ∀ p, p < 60 → pl' p = pl p) ∨ ∃ p, p < 60 ∧ epl' nM = Int32.ofNat p ∧ pl p = -1 ∧ pl' p = Int32.ofNat nM ∧ ∀ o, o < 60 → o ≠ p → pl' o = pl o) : iP (nM + 1) pl' epl' est' := by
  intro p hp
  rcases hc with ⟨e1, e2⟩ | ⟨q, q1, q2, q3, q4, q5⟩
  · rcases H p hp with ⟨h1, h2⟩ | ⟨i, h1, h2, h3, h4, h5⟩
    · left
      refine ⟨by rw [e2 p hp]; exact h1, fun i hi hs => ?_⟩
      by_cases e : i = nM
      · rw [e, e1]; exact fun w => n_m1 (by omega) w.symm
      · rw [(he i e).2] at hs; rw [(he i e).1]; exact h2 i (by omega) hs
    · right
      refine ⟨i, by omega, by rw [e2 p hp]; exact h2, by rw [(he i (by omega)).2]; exact h3, by rw [(he i (by omega)).1]; exact h4, fun j hj hs hq => ?_⟩
      by_cases e : j = nM
      · rw [e, e1] at hq; exact absurd hq.symm (n_m1 (by omega))
      · rw [(he j e).2] at hs; rw [(he j e).1] at hq; exact h5 j (by omega) hs hq
  · by_cases w : p = q
    · subst w
      rcases H p hp with ⟨h1, h2⟩ | ⟨i, h1, h2, h3, h4, h5⟩
      · right
        refine ⟨nM, by omega, q4, h0, q2, fun j hj hs hq => ?_⟩
        by_cases e : j = nM
        · exact e
        · rw [(he j e).2] at hs; rw [(he j e).1] at hq; exact absurd hq (h2 j (by omega) hs)
      · rw [q3] at h2; exact absurd h2.symm (n_m1 (by omega))
    · rcases H p hp with ⟨h1, h2⟩ | ⟨i, h1, h2, h3, h4, h5⟩
      · left
        refine ⟨by rw [q5 p hp w]; exact h1, fun i hi hs => ?_⟩
        by_cases e : i = nM
        · rw [e, q2]; exact fun g => w ((i_inj (by omega) (by omega)).mp g).symm
        · rw [(he i e).2] at hs; rw [(he i e).1]; exact h2 i (by omega) hs
      · right
        refine ⟨i, by omega, by rw [q5 p hp w]; exact h2, by rw [(he i (by omega)).2]; exact h3, by rw [(he i (by omega)).1]; exact h4, fun j hj hs hq => ?_⟩
        by_cases e : j = nM
        · rw [e, q2] at hq; exact absurd ((i_inj (by omega) (by omega)).mp hq).symm w
        · rw [(he j e).2] at hs; rw [(he j e).1] at hq; exact h5 j (by omega) hs hq
/-- one bottle has less left -/
theorem iB_less {nC : Nat} {q : Nat → Option Nat} {QQ : Nat → Nat → Option Nat} {S : Nat → Nat × Nat} {N i a j z nb : Nat} {fd ff fs fl fl' ekind ebot ed ef es el el' : Nat → Int32} (H : iB nC q QQ S N fd ff fs fl ekind ebot ed ef es el) (ha : q i = some a) (hi : i < nC) (hz : QQ (a + 2) j = some z) (hb : ebot i = Int32.ofNat nb) (h8 : nb ≤ 8) (hj : j < nb)
    (hinj : ∀ i2 a2, q i2 = some a2 → i2 < nC) (hl : fl' z = el' (8 * i + j)) (hl2 : ∀ x, x ≠ z → fl' x = fl x) (he2 : ∀ x, x ≠ 8 * i + j → el' x = el x) (hr : Rng (el' (8 * i + j)) 0 10) (hs : 0 ≤ (es (8 * i + j)).toInt) : iB nC q QQ S N fd ff fs fl' ekind ebot ed ef es el' := by
  obtain ⟨c1, c2, c3, c4, c5⟩ := H
  have hlt : Int32.ofNat j < ebot i := by rw [hb, n_lt (by omega) (by omega)]; exact hj
  refine ⟨fun i2 a2 j2 z2 h1 h2 => ?_, c2, c3, fun i2 j2 h1 h2 h3 => ?_, fun i2 j2 h1 h2 h3 => ?_⟩
  · obtain ⟨d1, d2, d3, d4, d5, d6, d7, d8, d9⟩ := c1 i2 a2 j2 z2 h1 h2
    refine ⟨d1, d2, d3, d4, d5, d6, d7, d8, ?_⟩
    by_cases e : z2 = z
    · subst e
      obtain ⟨rfl, rfl⟩ := c3 i2 i a2 a j2 j z2 h1 ha h2 hz
      exact hl
    · rw [hl2 z2 e]
      by_cases e2 : 8 * i2 + j2 = 8 * i + j
      · obtain rfl : i2 = i := by omega
        obtain rfl : j2 = j := by omega
        rw [ha] at h1; cases h1
        rw [hz] at h2; cases h2
        exact absurd rfl e
      · rw [he2 _ e2]; exact d9
  · obtain ⟨r1, r2, r3, r4, r5⟩ := c4 i2 j2 h1 h2 h3
    by_cases e2 : 8 * i2 + j2 = 8 * i + j
    · rw [e2] at r1 r2 r3 ⊢
      exact ⟨r1, r2, r3, hr, fun _ => hs⟩
    · rw [he2 _ e2]; exact ⟨r1, r2, r3, r4, r5⟩
  · have e2 : 8 * i2 + j2 ≠ 8 * i + j := by
      intro w
      obtain rfl : i2 = i := by omega
      obtain rfl : j2 = j := by omega
      rcases h3 with h3 | h3
      · omega
      · rw [i_le] at h3; rw [i_lt] at hlt; omega
    rw [he2 _ e2]; exact c5 i2 j2 h1 h2 h3
