/-! DOES, the heaps: bottles shut on both sides; the tables of the hands' lines -/
theorem shC_ne {h : Hp} {a z : Nat} {zs : Nat → Nat} : ∀ k, (∀ j, j < k → zs j ≠ z) → ∀ f, hF (shC h a zs k) f z = hF h f z := by
  intro k
  induction k with
  | zero => intro _ f; rw [shC]
  | succ k ih =>
    intro hz f
    have zk : z ≠ zs k := fun w => hz k (by omega) w.symm
    rw [shC]
    split
    · rw [hF_sF, if_neg (fun w => zk w.2), hF_sF, if_neg (fun w => zk w.2)]
      exact ih (fun j hj => hz j (by omega)) f
    · exact ih (fun j hj => hz j (by omega)) f
theorem shC_hit {h : Hp} {a nb : Nat} {zs : Nat → Nat} (inj : ∀ j j', j < nb → j' < nb → zs j = zs j' → j = j') : ∀ k, k ≤ nb → ∀ j, j < k → hF (shC h a zs k) 5 (zs j) = (if hF h 4 (zs j) = 0 then shV h a (zs j) j else hF h 5 (zs j)) ∧ hF (shC h a zs k) 6 (zs j) = (if hF h 4 (zs j) = 0 then 10 else hF h 6 (zs j)) := by
  intro k
  induction k with
  | zero => intro _ j hj; omega
  | succ k ih =>
    intro hk j hj
    by_cases e : j = k
    · subst e
      have ne := shC_ne (h := h) (a := a) (z := zs j) (zs := zs) j (fun j' hj' w => by have := inj j' j (by omega) (by omega) w; omega)
      rw [shC]
      by_cases q : hF h 4 (zs j) = 0
      · rw [if_pos q, if_pos q, if_pos q]
        constructor
        · rw [hF_sF, if_neg (fun w => absurd w.1 (by decide)), hF_sF, if_pos ⟨rfl, rfl⟩]
        · rw [hF_sF, if_pos ⟨rfl, rfl⟩]
      · rw [if_neg q, if_neg q, if_neg q]
        exact ⟨ne _, ne _⟩
    · have jk : zs j ≠ zs k := fun w => e (inj j k (by omega) (by omega) w)
      have ih := ih (by omega) j (by omega)
      rw [shC]
      by_cases q : hF h 4 (zs k) = 0
      · have m : ∀ f, hF (sF (sF (shC h a zs k) 5 (zs k) (shV h a (zs k) k)) 6 (zs k) 10) f (zs j) = hF (shC h a zs k) f (zs j) := by
          intro f
          rw [hF_sF, if_neg (fun w => jk w.2), hF_sF, if_neg (fun w => jk w.2)]
        rw [if_pos q, m, m]
        exact ih
      · rw [if_neg q]; exact ih
theorem iB_sh {nC : Nat} {q : Nat → Option Nat} {QQ : Nat → Nat → Option Nat} {S : Nat → Nat × Nat} {N : Nat} {fd ff fs fl fs' fl' ekind ebot ed ef es el es' el' : Nat → Int32} (H : iB nC q QQ S N fd ff fs fl ekind ebot ed ef es el)
    (h1 : ∀ i a j z, q i = some a → QQ (a + 2) j = some z → fs' z = es' (8 * i + j) ∧ fl' z = el' (8 * i + j)) (h2 : ∀ i j, i < nC → j < 8 → Int32.ofNat j < ebot i → Rng (es' (8 * i + j)) (-1) 13000 ∧ Rng (el' (8 * i + j)) 0 10 ∧ (el' (8 * i + j) ≠ 0 → 0 ≤ (es' (8 * i + j)).toInt))
    (h3 : ∀ i j, i < 30 → j < 8 → (nC ≤ i ∨ ebot i ≤ Int32.ofNat j) → el' (8 * i + j) = el (8 * i + j)) : iB nC q QQ S N fd ff fs' fl' ekind ebot ed ef es' el' := by
  obtain ⟨c1, c2, c3, c4, c5⟩ := H
  refine ⟨fun i a j z ha hz => ?_, c2, c3, fun i j q1 q2 q3 => ?_, fun i j q1 q2 q3 => ?_⟩
  · obtain ⟨d1, d2, d3, d4, d5, d6, d7, -⟩ := c1 i a j z ha hz
    exact ⟨d1, d2, d3, d4, d5, d6, d7, h1 i a j z ha hz⟩
  · obtain ⟨d1, d2, -⟩ := c4 i j q1 q2 q3
    exact ⟨d1, d2, h2 i j q1 q2 q3⟩
  · rw [h3 i j q1 q2 q3]; exact c5 i j q1 q2 q3
theorem cHd_same {ST TK : Nat → Nat → Int32} {EN : Nat → Nat → Nat} {NL : Nat → Nat} {nH : Nat} {esp : Nat → Int32} {h h' : Hp} (H : cHd ST EN NL TK nH esp h) (e1 : hN h' = hN h) (e2 : hS h' = hS h) (e3 : hG h' = hG h) (e4 : hE h' = hE h) (e5 : hQ h' = hQ h) (e6 : hF h' 76 = hF h 76) (e7 : hF h' 34 = hF h 34) (e8 : hF h' 17 = hF h 17) : cHd ST EN NL TK nH esp h' := by
  unfold cHd at H ⊢
  rw [e1, e2, e3, e4, e5, e6, e7, e8]
  exact H
theorem tabs {k nS nC nH nM : Nat} {h : Hp} (I : InvN k nS nC nH nM h) : ∃ (ST : Nat → Nat → Int32) (EN : Nat → Nat → Nat) (NL : Nat → Nat) (TK : Nat → Nat → Int32), cHd ST EN NL TK nH (hE h 125) h ∧ mHd ST EN NL TK nH (hE h 126) (hE h 127) (hE h 128) ∧ ∀ hd, hd < nH → ∀ l, l < NL hd → Rng (TK hd l) 1 10 := by
  obtain ⟨s, vN, vS, vF, vV, vC, vB, vR, vH, vL, vM, vP, vT, vX, vA, vK⟩ := I
  obtain ⟨c1, c2, c3, c4, c5, c6, c7, ⟨p', c8, c9, c10⟩, c11⟩ := vH
  have A : ∀ hd, ∃ T : Nat × Nat × Nat × (Nat → Nat), hd < nH → hQ h 79 hd = some T.1 ∧ hG h 18 T.1 = some T.2.1 ∧ T.2.2.1 ≤ 12 ∧ hF h 34 T.2.1 = Int32.ofNat T.2.2.1 ∧ hE h 126 hd = Int32.ofNat T.2.2.1 ∧ T.2.2.2 0 = 0 ∧ lnK (hE h (T.2.1 + 1)) T.2.2.2 T.2.2.1 ∧
      (∀ l, l < T.2.2.1 → hE h (T.2.1 + 3) l = hE h 127 (36 * hd + 3 * l) ∧ Rng (hE h (T.2.1 + 3) l) 1 10 ∧ hE h (T.2.1 + 2) l = Int32.ofNat (T.2.2.2 (l + 1)) ∧ hE h 127 (36 * hd + (3 * l + 1)) = Int32.ofNat (T.2.2.2 l) ∧ hE h 127 (36 * hd + (3 * l + 2)) = Int32.ofNat (T.2.2.2 (l + 1)) ∧ (T.2.2.2 (l + 1) = T.2.2.2 l ∨ dep (hE h (T.2.1 + 1)) (T.2.2.2 l) (T.2.2.2 (l + 1) - T.2.2.2 l) = some 1)) ∧
      (∀ l, l < T.2.2.1 → ∀ x, x < T.2.2.2 (l + 1) → rop (hE h (T.2.1 + 1) x) (hE h 128 (180 * hd + 3 * x)) (hE h 128 (180 * hd + (3 * x + 1))) (hE h 128 (180 * hd + (3 * x + 2)))) := by
    intro hd
    by_cases hh : hd < nH
    · obtain ⟨b, hb⟩ := c5 hd hh
      obtain ⟨d1, d2, d3, d4, d5, p, d6, d7⟩ := c4 hd b hb
      have L := vL hd b p hb d6
      obtain ⟨f1, f2, f3, f4, f5, f6, f7, f8, f9⟩ := d7
      rw [eD_at (by omega), eD_at (by omega), eD_at (by omega)] at L
      obtain ⟨nl, ends, L1, L2, L3, L4, L5, L6, L7⟩ := rln_k L
      exact ⟨(b, p, nl, ends), fun _ => ⟨hb, d6, L1, L2, L3, L4, L5, L6, L7⟩⟩
    · exact ⟨(0, 0, 0, fun _ => 0), fun w => absurd w hh⟩
  obtain ⟨T, hT⟩ := Classical.axiomOfChoice A
  refine ⟨fun hd => hE h ((T hd).2.1 + 1), fun hd => (T hd).2.2.2, fun hd => (T hd).2.2.1, fun hd => hE h ((T hd).2.1 + 3), ⟨c1, c3, fun hd hh => ?_⟩, fun hd hh => ?_, fun hd hh l hl => ?_⟩
  · obtain ⟨t1, t2, t3, t4, t5, t6, t7, t8, t9⟩ := hT hd hh
    obtain ⟨d1, d2, d3, d4, d5, p, d6, d7⟩ := c4 hd _ t1
    obtain rfl : (T hd).2.1 = p := by rw [t2] at d6; exact Option.some.inj d6
    obtain ⟨f1, f2, f3, f4, f5, f6, f7, f8, f9⟩ := d7
    exact ⟨(T hd).1, (T hd).2.1, t1, d3, d4, t2, ⟨f1, f2, f3, f4, f5, f6, f7⟩, f8.symm, f9, t4, t3, t6, fun l hl => (t8 l hl).2.2.1, t7, rfl, fun l _ => rfl, d5⟩
  · obtain ⟨t1, t2, t3, t4, t5, t6, t7, t8, t9⟩ := hT hd hh
    refine ⟨⟨t3, t7, fun l hl => ?_⟩, t5, fun l hl => ⟨(t8 l hl).1.symm, (t8 l hl).2.1⟩⟩
    obtain ⟨x1, x2, x3, x4, x5, x6⟩ := t8 l hl
    refine ⟨x4, x5, ?_, fun j hj => ?_⟩
    · rcases x6 with x6 | x6
      · left; show (T hd).2.2.2 (l + 1) - (T hd).2.2.2 l = 0; omega
      · right; exact x6
    · have hj : j < (T hd).2.2.2 (l + 1) - (T hd).2.2.2 l := hj
      exact t9 l hl ((T hd).2.2.2 l + j) (by omega)
  · exact ((hT hd hh).2.2.2.2.2.2.2.1 l hl).2.1
theorem St_mrg {h g : Hp} (s : St h) : St (mrg h g) := by
  obtain ⟨a1, a2, a3, a4, a5, a6, a7, a8, a9, a10, a11, a12⟩ := s
  refine ⟨a1, a2, a3, a4, a5, a6, a7, a8, a9, fun j q1 q2 => ?_, fun j hj => ?_, ?_⟩
  · rw [mrg_E2 (by omega)]; exact a10 j q1 q2
  · rw [xS_mrg, xG_mrg, mrg_F2 (by omega), mrg_E2 (by omega)]; exact a11 j hj
  · rw [mrg_F2 (by omega)]; exact a12
theorem gB_mrg {h g : Hp} {i : Nat} : gB (mrg h g) i = mrg h (gB g i) := by
  unfold gB
  rw [mrg_sEr (by decide) (by decide), mrg_sEr (by decide) (by decide), mrg_F1, mrg_E1 (by decide) (by decide)]
theorem shH_mrg {h g : Hp} {i nb : Nat} : shH (mrg h g) i nb = mrg h (shH g i nb) := by
  unfold shH
  rw [mrg_roE (by decide) (by decide), mrg_roE (by decide) (by decide), mrg_F1]
  rw [mrg_E1 (x := 120) (by decide) (by decide), mrg_E1 (x := 113) (by decide) (by decide), mrg_E1 (x := 115) (by decide) (by decide), mrg_E1 (x := 119) (by decide) (by decide), mrg_E1 (x := 121) (by decide) (by decide), mrg_E1 (x := 122) (by decide) (by decide)]
theorem gD_mrg {h g : Hp} {i nb : Nat} : gD (mrg h g) i nb = mrg h (gD g i nb) := by
  unfold gD
  rw [mrg_sFr, gB_mrg, shH_mrg, mrg_F1, mrg_E1 (x := 113) (by decide) (by decide), mrg_E1 (x := 115) (by decide) (by decide), mrg_E1 (x := 118) (by decide) (by decide)]
theorem mrg_eq {h g : Hp} (e1 : ∀ k, hF h k 103 = hF g k 103) (e2 : ∀ x, 104 ≤ x → x < 151 → hE h x = hE g x) : mrg h g = h := by
  refine hp_ext rfl rfl rfl ?_ rfl ?_ rfl
  · funext k x; rw [hF_mrg]; split
    · rename_i e; rw [e, e1]
    · rfl
  · funext x j; rw [hE_mrg]; split
    · rename_i e; rw [e2 x e.1 e.2]
    · rfl
theorem arA_mrg {h g : Hp} {n : Nat} : arA (mrg h g) n = arA g n := by
  unfold arA
  rw [mrg_E1 (x := 122) (by decide) (by decide), mrg_E1 (x := 129) (by decide) (by decide), mrg_E1 (x := 130) (by decide) (by decide), mrg_E1 (x := 131) (by decide) (by decide), mrg_E1 (x := 132) (by decide) (by decide), mrg_E1 (x := 133) (by decide) (by decide), mrg_E1 (x := 134) (by decide) (by decide), mrg_E1 (x := 135) (by decide) (by decide)]
