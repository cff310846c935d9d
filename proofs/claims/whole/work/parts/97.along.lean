/-! ALONG A CAST: what the class's run leaves as it is -/
def fr0 (h h' : Hp) : Prop := hN h ≤ hN h' ∧ ∀ a, a < hN h → hS h' a = hS h a ∧ (∀ k, hG h' k a = hG h k a) ∧ (∀ k, a = 103 ∨ k ≠ 6 → a = 103 ∨ k ≠ 81 → hF h' k a = hF h k a) ∧ (a ≠ 89 → a ≠ 91 → hE h' a = hE h a) ∧ (a ≠ 90 → hQ h' a = hQ h a)
theorem fr0_rf (h : Hp) : fr0 h h := ⟨Nat.le_refl _, fun _ _ => ⟨rfl, fun _ => rfl, fun _ _ _ => rfl, fun _ _ => rfl, fun _ => rfl⟩⟩
theorem fr0_tr {h h1 h2 : Hp} (g : fr0 h h1) (g2 : fr0 h1 h2) : fr0 h h2 := by
  refine ⟨Nat.le_trans g.1 g2.1, fun a ha => ?_⟩
  have ha2 : a < hN h1 := Nat.lt_of_lt_of_le ha g.1
  obtain ⟨a1, a2, a3, a4, a5⟩ := g.2 a ha
  obtain ⟨b1, b2, b3, b4, b5⟩ := g2.2 a ha2
  exact ⟨b1.trans a1, fun k => (b2 k).trans (a2 k), fun k q1 q2 => (b3 k q1 q2).trans (a3 k q1 q2), fun q1 q2 => (b4 q1 q2).trans (a4 q1 q2), fun q => (b5 q).trans (a5 q)⟩
theorem fr0_ag {h h1 : Hp} (g : ag h h1) : fr0 h h1 := ⟨g.1, fun a ha => ⟨(g.2 a ha).1, (g.2 a ha).2.2.1, fun k _ _ => (g.2 a ha).2.1 k, fun _ _ => (g.2 a ha).2.2.2.1, fun _ => (g.2 a ha).2.2.2.2⟩⟩
theorem fr0_sF {h h1 : Hp} (g : fr0 h h1) {k b : Nat} {v : Int32} (hb : hN h ≤ b ∨ b ≠ 103 ∧ (k = 6 ∨ k = 81)) : fr0 h (sF h1 k b v) := by
  refine ⟨g.1, fun a ha => ?_⟩
  obtain ⟨a1, a2, a3, a4, a5⟩ := g.2 a ha
  refine ⟨a1, a2, fun x q1 q2 => ?_, a4, a5⟩
  rw [hF_sF, if_neg (by
    rintro ⟨w1, w2⟩
    rcases hb with w | ⟨w3, w | w⟩
    · omega
    · rcases q1 with q1 | q1
      · exact w3 (w2.symm.trans q1)
      · exact q1 (w1.trans w)
    · rcases q2 with q2 | q2
      · exact w3 (w2.symm.trans q2)
      · exact q2 (w1.trans w))]
  exact a3 x q1 q2
theorem fr0_sE {h h1 : Hp} (g : fr0 h h1) {b i : Nat} {v : Int32} (hb : b = 89 ∨ b = 91) : fr0 h (sE h1 b i v) := by
  refine ⟨g.1, fun a ha => ?_⟩
  obtain ⟨a1, a2, a3, a4, a5⟩ := g.2 a ha
  refine ⟨a1, a2, a3, fun q1 q2 => ?_, a5⟩
  rw [hE_sE_ne (by omega)]
  exact a4 q1 q2
theorem fr0_sQ {h h1 : Hp} (g : fr0 h h1) {i : Nat} {v : Option Nat} : fr0 h (sQ h1 90 i v) := by
  refine ⟨g.1, fun a ha => ?_⟩
  obtain ⟨a1, a2, a3, a4, a5⟩ := g.2 a ha
  refine ⟨a1, a2, a3, a4, fun q => ?_⟩
  rw [hQ_sQ_ne q]
  exact a5 q
theorem fr0_bv {h : Hp} {a z : Nat} : fr0 h (bvH h a z) := by
  unfold bvH
  exact fr0_sE (fr0_sE (fr0_sE (fr0_sE (fr0_rf h) (Or.inl rfl)) (Or.inl rfl)) (Or.inl rfl)) (Or.inl rfl)
theorem fr0_tcH {h : Hp} {a z p j hd l nM : Nat} (hz : z ≠ 103) : fr0 h (tcH h a z p j hd l nM) := by
  unfold tcH
  refine fr0_sF (fr0_sQ ?_) (Or.inr ⟨by decide, Or.inr rfl⟩)
  split
  · exact fr0_sF (fr0_sF (fr0_sF (fr0_sF (fr0_ag (ag_nSa _ _ _ _)) (Or.inl (Nat.le_refl _))) (Or.inl (Nat.le_refl _))) (Or.inr ⟨hz, Or.inl rfl⟩)) (Or.inl (Nat.le_refl _))
  · exact fr0_sE (fr0_sF (fr0_sF (fr0_sF (fr0_sF (fr0_ag (ag_nSa _ _ _ _)) (Or.inl (Nat.le_refl _))) (Or.inl (Nat.le_refl _))) (Or.inr ⟨hz, Or.inl rfl⟩)) (Or.inl (Nat.le_refl _))) (Or.inr rfl)
theorem fr0_tcS {h : Hp} {a z p j hd nl nM : Nat} {ends : Nat → Nat} (hz : z ≠ 103) : fr0 h (tcS h a z p j hd nl nM ends) := by
  unfold tcS
  split
  · exact fr0_rf h
  · split
    · exact fr0_bv
    · exact fr0_tr fr0_bv (fr0_tcH hz)
theorem St_fr0 {h h' : Hp} (g : fr0 h h') (s : St h) : St h' := by
  have hn0 := s.n
  have k := g.2
  obtain ⟨a1, a2, a3, a4, a5, a6, a7, a8, a9, a10, a11, a12⟩ := s
  refine ⟨fun a q1 q2 => ?_, fun p hp => ?_, fun i hi => ?_, by have := g.1; omega, ?_, ?_, ?_, ?_, fun f q1 q2 => ?_, fun j q1 q2 => ?_, fun j hj => ?_, ?_⟩
  · rw [(k a (by omega)).1]; exact a1 a q1 q2
  · have := pt_lo p hp
    rw [(k _ (by omega)).2.1]; exact a2 p hp
  · rw [(k 94 (by omega)).2.2.2.2 (by decide)]; exact a3 i hi
  · rw [(k _ (by omega)).1]; exact a5
  · rw [(k _ (by omega)).1]; exact a6
  · rw [(k _ (by omega)).1]; exact a7
  · rw [(k _ (by omega)).1]; exact a8
  · rw [(k _ (by omega)).2.1]; exact a9 f q1 q2
  · rw [(k j (by omega)).2.2.2.1 (by omega) (by omega)]; exact a10 j q1 q2
  · rw [(k (10 + j) (by omega)).1, (k (10 + j) (by omega)).2.1, (k (10 + j) (by omega)).2.2.1 161 (Or.inr (by decide)) (Or.inr (by decide)), (k (20 + j) (by omega)).1, (k (20 + j) (by omega)).2.2.2.1 (by omega) (by omega)]; exact a11 j hj
  · rw [(k 0 (by omega)).2.2.1 204 (Or.inr (by decide)) (Or.inr (by decide))]; exact a12
/-- the hands' lines, on the class's side -/
def cHd (ST : Nat → Nat → Int32) (EN : Nat → Nat → Nat) (NL : Nat → Nat) (TK : Nat → Nat → Int32) (nH : Nat) (esp : Nat → Int32) (h : Hp) : Prop :=
  hF h 76 64 = Int32.ofNat nH ∧ nH ≤ 8 ∧ ∀ hd, hd < nH → ∃ b p, hQ h 79 hd = some b ∧ b < hN h ∧ hS h b = (4, 0) ∧ hG h 18 b = some p ∧ (hS h p = (6, 0) ∧ hS h (p + 1) = (100, 160) ∧ hS h (p + 2) = (100, 12) ∧ hS h (p + 3) = (100, 12) ∧ hG h 30 p = some (p + 1) ∧ hG h 32 p = some (p + 2) ∧ hG h 33 p = some (p + 3)) ∧ (151 ≤ p ∨ p = 85) ∧ p + 3 < hN h ∧
    hF h 34 p = Int32.ofNat (NL hd) ∧ NL hd ≤ 12 ∧ EN hd 0 = 0 ∧ (∀ l, l < NL hd → hE h (p + 2) l = Int32.ofNat (EN hd (l + 1))) ∧ lnK (hE h (p + 1)) (EN hd) (NL hd) ∧ hE h (p + 1) = ST hd ∧ (∀ l, l < NL hd → hE h (p + 3) l = TK hd l) ∧ hF h 17 b = esp hd
theorem cHd_fr0 {ST TK : Nat → Nat → Int32} {EN : Nat → Nat → Nat} {NL : Nat → Nat} {nH : Nat} {esp : Nat → Int32} {h h' : Hp} (g : fr0 h h') (hn : 151 ≤ hN h) (H : cHd ST EN NL TK nH esp h) : cHd ST EN NL TK nH esp h' := by
  have k := g.2
  obtain ⟨c1, c2, c3⟩ := H
  refine ⟨by rw [(k 64 (by omega)).2.2.1 76 (Or.inr (by decide)) (Or.inr (by decide))]; exact c1, c2, fun hd hh => ?_⟩
  obtain ⟨b, p, d1, d2, d3, d4, ⟨e1, e2, e3, e4, e5, e6, e7⟩, d6, d7, d8, d9, d10, d11, d12, d13, d14, d15⟩ := c3 hd hh
  have kb := k b d2
  have kp := k p (by omega)
  have kp1 := k (p + 1) (by omega)
  have kp2 := k (p + 2) (by omega)
  have kp3 := k (p + 3) (by omega)
  refine ⟨b, p, by rw [(k 79 (by omega)).2.2.2.2 (by decide)]; exact d1, Nat.lt_of_lt_of_le d2 g.1, kb.1.trans d3, (kb.2.1 _).trans d4, ⟨kp.1.trans e1, kp1.1.trans e2, kp2.1.trans e3, kp3.1.trans e4, (kp.2.1 _).trans e5, (kp.2.1 _).trans e6, (kp.2.1 _).trans e7⟩, d6, Nat.lt_of_lt_of_le d7 g.1, (kp.2.2.1 34 (Or.inr (by decide)) (Or.inr (by decide))).trans d8, d9, d10, ?_, ?_, ?_, ?_, (kb.2.2.1 17 (Or.inr (by decide)) (Or.inr (by decide))).trans d15⟩
  · rw [kp2.2.2.2.1 (by omega) (by omega)]; exact d11
  · rw [kp1.2.2.2.1 (by omega) (by omega)]; exact d12
  · rw [kp1.2.2.2.1 (by omega) (by omega)]; exact d13
  · rw [kp3.2.2.2.1 (by omega) (by omega)]; exact d14
/-- the cast whose water is parted, on the class's side -/
def cCs (a i nb kk : Nat) (zs : Nat → Nat) (h : Hp) : Prop :=
  hQ h 78 i = some a ∧ 151 ≤ a ∧ a + 2 < hN h ∧ hS h a = (3, 0) ∧ hG h 11 a = some (a + 2) ∧ hS h (a + 2) = (302, kk) ∧ hF h 12 a = Int32.ofNat nb ∧ nb ≤ kk ∧ kk ≤ 8 ∧ hF h 7 a = Int32.ofNat i ∧ ∀ j, j < nb → hQ h (a + 2) j = some (zs j) ∧ 151 ≤ zs j ∧ zs j < hN h ∧ hS h (zs j) = (2, 0)
theorem cCs_fr0 {a i nb kk : Nat} {zs : Nat → Nat} {h h' : Hp} (g : fr0 h h') (hn : 151 ≤ hN h) (H : cCs a i nb kk zs h) : cCs a i nb kk zs h' := by
  have k := g.2
  obtain ⟨c1, c2, c3, c4, c5, c6, c7, c8, c9, c10, c11⟩ := H
  have ka := k a (by omega)
  have ka2 := k (a + 2) c3
  refine ⟨by rw [(k 78 (by omega)).2.2.2.2 (by decide)]; exact c1, c2, Nat.lt_of_lt_of_le c3 g.1, ka.1.trans c4, (ka.2.1 _).trans c5, ka2.1.trans c6, (ka.2.2.1 12 (Or.inr (by decide)) (Or.inr (by decide))).trans c7, c8, c9, (ka.2.2.1 7 (Or.inr (by decide)) (Or.inr (by decide))).trans c10, fun j hj => ?_⟩
  obtain ⟨d1, d2, d3, d4⟩ := c11 j hj
  exact ⟨by rw [ka2.2.2.2.2 (by omega)]; exact d1, d2, Nat.lt_of_lt_of_le d3 g.1, (k _ d3).1.trans d4⟩
theorem mo_eh {h : Hp} {A : SA} : hE (moE h A) 129 = A.eh := by
  unfold moE
  simp only [xE_sF, hE_roE_ne, hE_roE_at, ne_eq, Nat.reduceEqDiff, not_false_eq_true]
theorem mo_ec {h : Hp} {A : SA} : hE (moE h A) 130 = A.ec := by
  unfold moE
  simp only [xE_sF, hE_roE_ne, hE_roE_at, ne_eq, Nat.reduceEqDiff, not_false_eq_true]
theorem mo_eb {h : Hp} {A : SA} : hE (moE h A) 131 = A.eb := by
  unfold moE
  simp only [xE_sF, hE_roE_ne, hE_roE_at, ne_eq, Nat.reduceEqDiff, not_false_eq_true]
theorem mo_ep {h : Hp} {A : SA} : hE (moE h A) 132 = A.ep := by
  unfold moE
  simp only [xE_sF, hE_roE_ne, hE_roE_at, ne_eq, Nat.reduceEqDiff, not_false_eq_true]
theorem mo_el {h : Hp} {A : SA} : hE (moE h A) 135 = A.el := by
  unfold moE
  simp only [xE_sF, hE_roE_at]
theorem mo_F {h : Hp} {A : SA} {k x : Nat} (hk : k ≠ 116) : hF (moE h A) k x = hF h k x := by
  unfold moE
  rw [hF_sF, if_neg (fun w => hk w.1)]
  simp only [xF_roE]
theorem mo_o {h : Hp} {A : SA} : hN (moE h A) = hN h ∧ hU (moE h A) = hU h ∧ hS (moE h A) = hS h ∧ hG (moE h A) = hG h ∧ hQ (moE h A) = hQ h := by
  unfold moE
  simp only [xN_sF, xU_sF, xS_sF, xG_sF, xQ_sF, xN_roE, xU_roE, xS_roE, xG_roE, xQ_roE, and_self]
theorem mrg_roE {h g : Hp} {a : Nat} {f : Nat → Int32} (h1 : 104 ≤ a) (h2 : a < 151) : mrg h (roE g a f) = roE (mrg h g) a f := by
  refine hp_ext (by rw [xN_mrg, xN_roE, xN_mrg]) (by rw [xU_mrg, xU_roE, xU_mrg]) (by rw [xS_mrg, xS_roE, xS_mrg]) ?_ (by rw [xG_mrg, xG_roE, xG_mrg]) ?_ (by rw [xQ_mrg, xQ_roE, xQ_mrg])
  · rw [xF_roE]; funext k x; rw [hF_mrg, hF_mrg, xF_roE]
  · funext x j; rw [hE_mrg, hE_roE, hE_roE, hE_mrg]
    by_cases e : x = a
    · rw [if_pos e, if_pos e, if_pos (by omega)]
    · rw [if_neg e, if_neg e]
theorem mrg_sFr {h g : Hp} {k : Nat} {v : Int32} : mrg h (sF g k 103 v) = sF (mrg h g) k 103 v := by
  refine hp_ext (by rw [xN_mrg, xN_sF, xN_mrg]) (by rw [xU_mrg, xU_sF, xU_mrg]) (by rw [xS_mrg, xS_sF, xS_mrg]) ?_ (by rw [xG_mrg, xG_sF, xG_mrg]) ?_ (by rw [xQ_mrg, xQ_sF, xQ_mrg])
  · funext y x; rw [hF_mrg, hF_sF, hF_sF, hF_mrg]
    by_cases e : x = 103
    · rw [if_pos e]
      by_cases w : y = k
      · rw [if_pos ⟨w, e⟩, if_pos ⟨w, e⟩]
      · rw [if_neg (fun q => w q.1), if_neg (fun q => w q.1), if_pos e]
    · rw [if_neg e, if_neg (fun q => e q.2), if_neg e]
  · rw [xE_sF]; funext x j; rw [hE_mrg, hE_mrg, xE_sF]
theorem mrg_sEr {h g : Hp} {a i : Nat} {v : Int32} (h1 : 104 ≤ a) (h2 : a < 151) : mrg h (sE g a i v) = sE (mrg h g) a i v := by
  refine hp_ext (by rw [xN_mrg, xN_sE, xN_mrg]) (by rw [xU_mrg, xU_sE, xU_mrg]) (by rw [xS_mrg, xS_sE, xS_mrg]) ?_ (by rw [xG_mrg, xG_sE, xG_mrg]) ?_ (by rw [xQ_mrg, xQ_sE, xQ_mrg])
  · rw [xF_sE]; funext k x; rw [hF_mrg, hF_mrg, xF_sE]
  · funext x j; rw [hE_mrg, hE_sE, hE_sE, hE_mrg]
    by_cases e : x = a ∧ j = i
    · rw [if_pos e, if_pos e, if_pos (by omega)]
    · rw [if_neg e, if_neg e]
theorem mrg_mo {h g : Hp} {A : SA} : mrg h (moE g A) = moE (mrg h g) A := by
  unfold moE
  rw [mrg_sFr, mrg_roE (by decide) (by decide), mrg_roE (by decide) (by decide), mrg_roE (by decide) (by decide), mrg_roE (by decide) (by decide), mrg_roE (by decide) (by decide), mrg_roE (by decide) (by decide), mrg_roE (by decide) (by decide), mrg_roE (by decide) (by decide)]
theorem mo_mo {h : Hp} {A B : SA} : moE (moE h A) B = moE h B := by
  refine hp_ext ?_ ?_ ?_ ?_ ?_ ?_ ?_
  · rw [mo_o.1, mo_o.1, mo_o.1]
  · rw [mo_o.2.1, mo_o.2.1, mo_o.2.1]
  · rw [mo_o.2.2.1, mo_o.2.2.1, mo_o.2.2.1]
  · funext k x
    by_cases e : k = 116
    · subst e
      by_cases w : x = 103
      · subst w; rw [mo_n, mo_n]
      · unfold moE
        simp only [hF_sF, w, and_false, if_false, xF_roE]
    · rw [mo_F e, mo_F e, mo_F e]
  · rw [mo_o.2.2.2.1, mo_o.2.2.2.1, mo_o.2.2.2.1]
  · funext x j
    by_cases e : x ≠ 122 ∧ (x < 129 ∨ 135 < x)
    · rw [mo_ne e.1 e.2, mo_ne e.1 e.2, mo_ne e.1 e.2]
    · obtain rfl | rfl | rfl | rfl | rfl | rfl | rfl | rfl : x = 122 ∨ x = 129 ∨ x = 130 ∨ x = 131 ∨ x = 132 ∨ x = 133 ∨ x = 134 ∨ x = 135 := by omega
      · rw [mo_bl, mo_bl]
      · rw [mo_eh, mo_eh]
      · rw [mo_ec, mo_ec]
      · rw [mo_eb, mo_eb]
      · rw [mo_ep, mo_ep]
      · rw [mo_epl, mo_epl]
      · rw [mo_est, mo_est]
      · rw [mo_el, mo_el]
  · rw [mo_o.2.2.2.2, mo_o.2.2.2.2, mo_o.2.2.2.2]
