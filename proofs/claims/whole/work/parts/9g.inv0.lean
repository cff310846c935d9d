/-! THE INVARIANT at the beginning -/
section I0
variable {L : Nat} {xs : Nat → Int32} {fm : Option Nat} {H1 H : Hp}
theorem st_0 (C : icA H1) (M : imA H1 H) (iv : Iv (hp0 L xs fm) H) : St H := by
  obtain ⟨c1, c2, cS, cP, cF, cR, cQ⟩ := C
  obtain ⟨m1, m2, o, mS, mP, mF, mR⟩ := M
  unfold icS at cS; unfold icP at cP; unfold icF at cF; unfold icR at cR; unfold icQ at cQ
  unfold imS at mS; unfold imP at mP; unfold imF at mF; unfold imR at mR
  have q1 : ∀ a, a < 103 → hS H a = hS H1 a := fun a ha => (o.2 a (by omega)).1
  have q3 : ∀ k a, a < 103 → hG H k a = hG H1 k a := fun k a ha => (o.2 a (by omega)).2.2.1 k
  have q5 : ∀ a, a < 103 → hQ H a = hQ H1 a := fun a ha => (o.2 a (by omega)).2.2.2.2
  have old : ∀ a, a < 64 → hS H a = s0S L a ∧ hE H a = s0E xs a ∧ ∀ k, hF H k a = s0F k a ∧ hG H k a = s0G fm k a := iv.2.1
  refine ⟨fun a h1 h2 => ?_, ?_, fun i hi => ?_, by omega, (old 1 (by decide)).1, (old 2 (by decide)).1, (old 3 (by decide)).1, (old 4 (by decide)).1, fun f h1 h2 => ?_, fun j h1 h2 i => ?_, fun j hj => ?_, ((old 0 (by decide)).2.2 204).1⟩
  · have c : a = 64 ∨ a = 65 ∨ a = 66 ∨ a = 67 ∨ a = 68 ∨ a = 69 ∨ a = 70 ∨ a = 71 ∨ a = 72 ∨ a = 73 ∨ a = 74 ∨ a = 75 ∨ a = 76 ∨ a = 77 ∨ a = 78 ∨ a = 79 ∨ a = 80 ∨ a = 81 ∨ a = 82 ∨ a = 83 ∨ a = 84 ∨ a = 85 ∨ a = 86 ∨ a = 87 ∨ a = 88 ∨ a = 89 ∨ a = 90 ∨ a = 91 ∨ a = 92 ∨ a = 93 ∨ a = 94 ∨ a = 95 ∨ a = 96 ∨ a = 97 ∨ a = 98 ∨ a = 99 ∨ a = 100 ∨ a = 101 ∨ a = 102 ∨ a = 103 ∨ a = 104 ∨ a = 105 ∨ a = 106 ∨ a = 107 ∨ a = 108 ∨ a = 109 ∨ a = 110 ∨ a = 111 ∨ a = 112 ∨ a = 113 ∨ a = 114 ∨ a = 115 ∨ a = 116 ∨ a = 117 ∨ a = 118 ∨ a = 119 ∨ a = 120 ∨ a = 121 ∨ a = 122 ∨ a = 123 ∨ a = 124 ∨ a = 125 ∨ a = 126 ∨ a = 127 ∨ a = 128 ∨ a = 129 ∨ a = 130 ∨ a = 131 ∨ a = 132 ∨ a = 133 ∨ a = 134 ∨ a = 135 ∨ a = 136 ∨ a = 137 ∨ a = 138 ∨ a = 139 ∨ a = 140 ∨ a = 141 ∨ a = 142 ∨ a = 143 ∨ a = 144 ∨ a = 145 ∨ a = 146 ∨ a = 147 ∨ a = 148 ∨ a = 149 ∨ a = 150 := by omega
    rcases c with rfl | rfl | rfl | rfl | rfl | rfl | rfl | rfl | rfl | rfl | rfl | rfl | rfl | rfl | rfl | rfl | rfl | rfl | rfl | rfl | rfl | rfl | rfl | rfl | rfl | rfl | rfl | rfl | rfl | rfl | rfl | rfl | rfl | rfl | rfl | rfl | rfl | rfl | rfl | rfl | rfl | rfl | rfl | rfl | rfl | rfl | rfl | rfl | rfl | rfl | rfl | rfl | rfl | rfl | rfl | rfl | rfl | rfl | rfl | rfl | rfl | rfl | rfl | rfl | rfl | rfl | rfl | rfl | rfl | rfl | rfl | rfl | rfl | rfl | rfl | rfl | rfl | rfl | rfl | rfl | rfl | rfl | rfl | rfl | rfl | rfl | rfl
    all_goals first | (rw [q1 _ (by decide)]; simp only [cS]; rfl) | (simp only [mS]; rfl)
  · simp only [ptL, List.forall_mem_cons, q3, Nat.reduceLT, cP, mP, true_and, List.not_mem_nil, false_imp_iff, implies_true]
  · rw [q5 94 (by decide)]
    obtain rfl | rfl | rfl | rfl : i = 0 ∨ i = 1 ∨ i = 2 ∨ i = 3 := by omega
    · exact cQ.2.2.2.2.1
    · exact cQ.2.2.2.2.2.1
    · exact cQ.2.2.2.2.2.2.1
    · exact cQ.2.2.2.2.2.2.2
  · obtain rfl | rfl | rfl | rfl : f = 200 ∨ f = 201 ∨ f = 202 ∨ f = 203 := by omega
    · exact ((old 0 (by decide)).2.2 200).2
    · exact ((old 0 (by decide)).2.2 201).2
    · exact ((old 0 (by decide)).2.2 202).2
    · exact ((old 0 (by decide)).2.2 203).2
  · rw [(old j (by omega)).2.1]
    unfold s0E
    rw [if_neg (by omega), if_pos h2]
  · obtain rfl | rfl | rfl | rfl | rfl | rfl | rfl | rfl | rfl : j = 0 ∨ j = 1 ∨ j = 2 ∨ j = 3 ∨ j = 4 ∨ j = 5 ∨ j = 6 ∨ j = 7 ∨ j = 8 := by omega
    all_goals exact ⟨(old _ (by decide)).1, ((old _ (by decide)).2.2 160).2, ((old _ (by decide)).2.2 161).1, (old _ (by decide)).1, fun i => by rw [(old _ (by decide)).2.1]; rfl⟩
set_option maxHeartbeats 2000000 in
theorem inv_0 (hu : hU H1 = 5698) (C : icA H1) (M : imA H1 H) (iv : Iv (hp0 L xs fm) H) : Inv 0 H := by
  have s := st_0 C M iv
  obtain ⟨c1, c2, cS, cP, cF, cR, cQ⟩ := C
  obtain ⟨m1, m2, o, mS, mP, mF, mR⟩ := M
  unfold icS at cS; unfold icP at cP; unfold icF at cF; unfold icR at cR; unfold icQ at cQ
  unfold imF at mF; unfold imR at mR
  have q1 : ∀ a, a < 103 → hS H a = hS H1 a := fun a ha => (o.2 a (by omega)).1
  have q2 : ∀ k a, a < 103 → hF H k a = hF H1 k a := fun k a ha => (o.2 a (by omega)).2.1 k
  have q3 : ∀ k a, a < 103 → hG H k a = hG H1 k a := fun k a ha => (o.2 a (by omega)).2.2.1 k
  have q4 : ∀ a, a < 103 → hE H a = hE H1 a := fun a ha => (o.2 a (by omega)).2.2.2.1
  have q5 : ∀ a, a < 103 → hQ H a = hQ H1 a := fun a ha => (o.2 a (by omega)).2.2.2.2
  have l1 : lob (hS H) (hN H) (hG H 30) (hG H 32) (hG H 33) 85 := by
    refine ⟨s_85 s, s_86 s, s_87 s, s_88 s, p_30_85 s, p_32_85 s, p_33_85 s, Or.inl rfl, by omega⟩
  have dr : hG H1 29 80 = some 85 := by simp only [cP]
  refine ⟨0, 0, 0, 0, ?_⟩
  simp only [InvN, jN, jS, jF, jV, jC, jB, jR, jH, jL, jM, jP, jT, jX, jA, jK, q2, q3, q4, q5, Nat.reduceLT, Nat.reduceMul, Nat.reduceAdd, cF, cQ, cR, mF, mR]
  have nn : ∀ {P : Prop} {a : Nat}, (none : Option Nat) = some a → P := fun h => absurd h (by simp)
  refine ⟨s, ⟨by omega, by omega⟩, ⟨rfl, rfl, by omega, fun i a h => nn h, fun i hi => by omega, fun i j a h => nn h, fun i hi => by omega, fun i _ _ => ⟨rfl, rfl⟩⟩, fun i hi => ⟨rfl, Or.inr (if_pos hi)⟩, ⟨rfl, by decide, rfl, by decide, rfl⟩, ⟨rfl, rfl, by omega, fun i a h => nn h, fun i hi => by omega, fun i j a h => nn h, fun i hi => by omega, fun i _ _ => ⟨rfl, rfl, rfl⟩⟩, ⟨fun i a j z h => nn h, fun i a j h => nn h, fun i i2 a a2 j j2 z h => nn h, fun i j hi => by omega, fun i j _ _ _ => ⟨rfl, rfl⟩⟩, ⟨fun i a j h => nn h, fun i j h1 h2 h3 => absurd h3 (not_lt0 j h2), fun i j _ _ _ => rfl⟩, ⟨rfl, rfl, by omega, fun i a h => nn h, fun i hi => by omega, fun i j a h => nn h, fun i j a b p h => nn h, ⟨85, dr, l1, fun i a h => nn h⟩, fun i hi => by omega, fun i _ _ => rfl⟩, fun i a p h => nn h, ⟨rfl, rfl, by omega, fun i a h => nn h, fun i hi => by omega, fun i j a h => nn h, fun i hi => by omega⟩, fun p hp => Or.inl ⟨if_pos hp, fun i hi => by omega⟩, ⟨⟨0, by omega, rfl, rfl, fun i hi => by omega⟩, rfl, rfl⟩, ⟨?_, ?_, ?_, ?_⟩, ⟨0, by omega, rfl, rfl, fun i hi => by omega⟩, iK_stale⟩
  all_goals exact ⟨rfl, rfl, by decide, by decide, fun _ => rfl, fun j _ => Or.inl ⟨rfl, (by decide : Rng (0 : Int32) (-1000) 1000)⟩⟩
end I0
