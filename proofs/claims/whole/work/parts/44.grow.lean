/-! NEW CELLS change nothing of what was there -/
def ag (h h' : Hp) : Prop := hN h ≤ hN h' ∧ ∀ a, a < hN h → hS h' a = hS h a ∧ (∀ k, hF h' k a = hF h k a) ∧ (∀ k, hG h' k a = hG h k a) ∧ hE h' a = hE h a ∧ hQ h' a = hQ h a
theorem ag_nw (h : Hp) (c l j : Nat) : ag h (nw h c l j) := by
  refine ⟨by rw [hN_nw]; omega, fun a ha => ?_⟩
  have q : a ≠ hN h := by omega
  exact ⟨hS_nw_ne q, fun k => hF_nw_ne q, fun k => hG_nw_ne q, hE_nw_ne q, hQ_nw_ne q⟩
theorem ag.nw {h h1 : Hp} (g : ag h h1) (c l j : Nat) : ag h (nw h1 c l j) := by
  refine ⟨by rw [hN_nw]; have := g.1; omega, fun a ha => ?_⟩
  have q : a ≠ hN h1 := by have := g.1; omega
  rw [hS_nw_ne q, hE_nw_ne q, hQ_nw_ne q]
  refine ⟨(g.2 a ha).1, fun k => ?_, fun k => ?_, (g.2 a ha).2.2.2.1, (g.2 a ha).2.2.2.2⟩
  · rw [hF_nw_ne q]; exact (g.2 a ha).2.1 k
  · rw [hG_nw_ne q]; exact (g.2 a ha).2.2.1 k
theorem ag.sF {h h1 : Hp} (g : ag h h1) {k b : Nat} {v : Int32} (hb : hN h ≤ b) : ag h (sF h1 k b v) := by
  refine ⟨g.1, fun a ha => ⟨(g.2 a ha).1, fun x => ?_, (g.2 a ha).2.2.1, (g.2 a ha).2.2.2.1, (g.2 a ha).2.2.2.2⟩⟩
  rw [hF_sF, if_neg (by omega)]; exact (g.2 a ha).2.1 x
theorem ag.sG {h h1 : Hp} (g : ag h h1) {k b : Nat} {v : Option Nat} (hb : hN h ≤ b) : ag h (sG h1 k b v) := by
  refine ⟨g.1, fun a ha => ⟨(g.2 a ha).1, (g.2 a ha).2.1, fun x => ?_, (g.2 a ha).2.2.2.1, (g.2 a ha).2.2.2.2⟩⟩
  rw [hG_sG, if_neg (by omega)]; exact (g.2 a ha).2.2.1 x
theorem iS_grow {nS : Nat} {cs ts : Int32} {q : Nat → Option Nat} {S S' : Nat → Nat × Nat} {N N' : Nat} {fx fy fd fw ff ft fl fa ex ey ed ew ef et el ea fx' fy' fd' fw' ff' ft' fl' fa' : Nat → Int32} (H : iS nS cs ts q S N fx fy fd fw ff ft fl fa ex ey ed ew ef et el ea) (hN : N ≤ N')
    (h : ∀ a, a < N → S' a = S a ∧ fx' a = fx a ∧ fy' a = fy a ∧ fd' a = fd a ∧ fw' a = fw a ∧ ff' a = ff a ∧ ft' a = ft a ∧ fl' a = fl a ∧ fa' a = fa a) : iS nS cs ts q S' N' fx' fy' fd' fw' ff' ft' fl' fa' ex ey ed ew ef et el ea := by
  obtain ⟨c1, c2, c3, c4, c5⟩ := H
  refine ⟨c1, c2, c3, fun i a ha => ?_, c5⟩
  obtain ⟨d1, d2, d3, d4⟩ := c4 i a ha
  obtain ⟨k1, k2, k3, k4, k5, k6, k7, k8, k9⟩ := h a d3
  rw [k1, k2, k3, k4, k5, k6, k7, k8, k9]
  exact ⟨d1, d2, by omega, d4⟩
theorem iC_grow {nC nS : Nat} {cc tc : Int32} {q : Nat → Option Nat} {S S' : Nat → Nat × Nat} {N N' : Nat} {fnum fkind fst fdep fbc fbeg fleft frc fnum' fkind' fst' fdep' fbc' fbeg' fleft' frc' : Nat → Int32} {gb gr gb' gr' : Nat → Option Nat} {ekind est edep ebeg eleft ebot eread : Nat → Int32} (H : iC nC nS cc tc q S N fnum fkind fst fdep fbc fbeg fleft frc gb gr ekind est edep ebeg eleft ebot eread) (hN : N ≤ N')
    (h : ∀ a, a < N → S' a = S a ∧ fnum' a = fnum a ∧ fkind' a = fkind a ∧ fst' a = fst a ∧ fdep' a = fdep a ∧ fbc' a = fbc a ∧ fbeg' a = fbeg a ∧ fleft' a = fleft a ∧ frc' a = frc a ∧ gb' a = gb a ∧ gr' a = gr a) : iC nC nS cc tc q S' N' fnum' fkind' fst' fdep' fbc' fbeg' fleft' frc' gb' gr' ekind est edep ebeg eleft ebot eread := by
  obtain ⟨c1, c2, c3, c4, c5⟩ := H
  refine ⟨c1, c2, c3, fun i a ha => ?_, c5⟩
  obtain ⟨d1, d2, d3, d4⟩ := c4 i a ha
  obtain ⟨k1, k2, k3, k4, k5, k6, k7, k8, k9, k10, k11⟩ := h a (by omega)
  rw [k1, k2, k3, k4, k5, k6, k7, k8, k9, k10, k11, (h (a + 1) (by omega)).1, (h (a + 2) (by omega)).1]
  exact ⟨d1, d2, by omega, d4⟩
theorem iB_grow {nC : Nat} {q : Nat → Option Nat} {QQ QQ' : Nat → Nat → Option Nat} {S S' : Nat → Nat × Nat} {N N' : Nat} {fd ff fs fl fd' ff' fs' fl' ekind ebot ed ef es el : Nat → Int32} (H : iB nC q QQ S N fd ff fs fl ekind ebot ed ef es el) (hN : N ≤ N') (hq : ∀ i a, q i = some a → a + 2 < N)
    (h : ∀ a, a < N → S' a = S a ∧ fd' a = fd a ∧ ff' a = ff a ∧ fs' a = fs a ∧ fl' a = fl a ∧ QQ' a = QQ a) : iB nC q QQ' S' N' fd' ff' fs' fl' ekind ebot ed ef es el := by
  obtain ⟨c1, c2, c3, c4, c5⟩ := H
  refine ⟨fun i a j z ha hz => ?_, fun i a j ha h1 h2 => ?_, fun i i2 a a2 j j2 z h1 h2 h3 h4 => ?_, c4, c5⟩
  · rw [(h (a + 2) (hq i a ha)).2.2.2.2.2] at hz
    obtain ⟨d1, d2, d3, d4, d5, d6⟩ := c1 i a j z ha hz
    obtain ⟨k1, k2, k3, k4, k5, k6⟩ := h z d4
    rw [k1, k2, k3, k4, k5]
    exact ⟨d1, d2, d3, by omega, d5, d6⟩
  · rw [(h (a + 2) (hq i a ha)).2.2.2.2.2]; exact c2 i a j ha h1 h2
  · rw [(h (a + 2) (hq i a h1)).2.2.2.2.2] at h3
    rw [(h (a2 + 2) (hq i2 a2 h2)).2.2.2.2.2] at h4
    exact c3 i i2 a a2 j j2 z h1 h2 h3 h4
theorem lob_grow {S S' : Nat → Nat × Nat} {N N' : Nat} {g1 g2 g3 g1' g2' g3' : Nat → Option Nat} {p : Nat} (H : lob S N g1 g2 g3 p) (hN : N ≤ N') (h : ∀ a, a < N → S' a = S a ∧ g1' a = g1 a ∧ g2' a = g2 a ∧ g3' a = g3 a) : lob S' N' g1' g2' g3' p := by
  obtain ⟨c1, c2, c3, c4, c5, c6, c7, c8, c9⟩ := H
  obtain ⟨k1, k2, k3, k4⟩ := h p (by omega)
  refine ⟨by rw [k1]; exact c1, by rw [(h _ (by omega)).1]; exact c2, by rw [(h _ (by omega)).1]; exact c3, by rw [(h _ (by omega)).1]; exact c4, by rw [k2]; exact c5, by rw [k3]; exact c6, by rw [k4]; exact c7, c8, by omega⟩
theorem iH_grow {nH : Nat} {cc tc : Int32} {q : Nat → Option Nat} {S S' : Nat → Nat × Nat} {N N' : Nat} {fsp fsp' esp eln : Nat → Int32} {gp g1 g2 g3 gp' g1' g2' g3' : Nat → Option Nat} {dr : Option Nat} (H : iH nH cc tc q S N fsp esp eln gp g1 g2 g3 dr) (hN : N ≤ N')
    (h : ∀ a, a < N → S' a = S a ∧ g1' a = g1 a ∧ g2' a = g2 a ∧ g3' a = g3 a ∧ fsp' a = fsp a ∧ gp' a = gp a) : iH nH cc tc q S' N' fsp' esp eln gp' g1' g2' g3' dr := by
  obtain ⟨c1, c2, c3, c4, c5, c6, c7, ⟨p, c8, c9, c10⟩, c11⟩ := H
  have h4 : ∀ a, a < N → S' a = S a ∧ g1' a = g1 a ∧ g2' a = g2 a ∧ g3' a = g3 a := fun a ha => ⟨(h a ha).1, (h a ha).2.1, (h a ha).2.2.1, (h a ha).2.2.2.1⟩
  have hq : ∀ i a, q i = some a → gp' a = gp a := fun i a ha => (h a (c4 i a ha).2.2.1).2.2.2.2.2
  refine ⟨c1, c2, c3, fun i a ha => ?_, c5, c6, fun i j a b p h1 h2 h3 h5 => ?_, ⟨p, c8, lob_grow c9 hN h4, fun i a ha => by rw [hq i a ha]; exact c10 i a ha⟩, c11⟩
  · obtain ⟨d1, d2, d3, d4, d5, p, d6, d7⟩ := c4 i a ha
    obtain ⟨k1, k2, k3, k4, k5, k6⟩ := h a d3
    rw [k1, k5, k6]
    exact ⟨d1, d2, by omega, d4, d5, p, d6, lob_grow d7 hN h4⟩
  · rw [hq i a h1] at h3; rw [hq j b h2] at h5; exact c7 i j a b p h1 h2 h3 h5
theorem iM_grow {nM nH nC : Nat} {cc tc : Int32} {q : Nat → Option Nat} {S S' : Nat → Nat × Nat} {N N' : Nat} {fh fc fb fp fl fpl fst fh' fc' fb' fp' fl' fpl' fst' eh ec eb ep el epl est ebot : Nat → Int32} (H : iM nM nH nC cc tc q S N fh fc fb fp fl fpl fst eh ec eb ep el epl est ebot) (hN : N ≤ N')
    (h : ∀ a, a < N → S' a = S a ∧ fh' a = fh a ∧ fc' a = fc a ∧ fb' a = fb a ∧ fp' a = fp a ∧ fl' a = fl a ∧ fpl' a = fpl a ∧ fst' a = fst a) : iM nM nH nC cc tc q S' N' fh' fc' fb' fp' fl' fpl' fst' eh ec eb ep el epl est ebot := by
  obtain ⟨c1, c2, c3, c4, c5⟩ := H
  refine ⟨c1, c2, c3, fun i a ha => ?_, c5⟩
  obtain ⟨d1, d2, d3, d4⟩ := c4 i a ha
  obtain ⟨k1, k2, k3, k4, k5, k6, k7, k8⟩ := h a d3
  rw [k1, k2, k3, k4, k5, k6, k7, k8]
  exact ⟨d1, d2, by omega, d4⟩
theorem St_ag {h h' : Hp} (g : ag h h') (s : St h) : St h' := by
  have hn0 := s.n
  have k := g.2
  obtain ⟨a1, a2, a3, a4, a5, a6, a7, a8, a9, a10, a11, a12⟩ := s
  refine ⟨fun a q1 q2 => ?_, fun p hp => ?_, fun i hi => ?_, by have := g.1; omega, ?_, ?_, ?_, ?_, fun f q1 q2 => ?_, fun j q1 q2 => ?_, fun j hj => ?_, ?_⟩
  · rw [(k a (by omega)).1]; exact a1 a q1 q2
  · have := pt_lo p hp
    rw [(k _ (by omega)).2.2.1]; exact a2 p hp
  · rw [(k 94 (by omega)).2.2.2.2]; exact a3 i hi
  · rw [(k _ (by omega)).1]; exact a5
  · rw [(k _ (by omega)).1]; exact a6
  · rw [(k _ (by omega)).1]; exact a7
  · rw [(k _ (by omega)).1]; exact a8
  · rw [(k _ (by omega)).2.2.1]; exact a9 f q1 q2
  · rw [(k j (by omega)).2.2.2.1]; exact a10 j q1 q2
  · rw [(k (10 + j) (by omega)).1, (k (10 + j) (by omega)).2.2.1, (k (10 + j) (by omega)).2.1, (k (20 + j) (by omega)).1, (k (20 + j) (by omega)).2.2.2.1]; exact a11 j hj
  · rw [(k _ (by omega)).2.1]; exact a12
theorem InvN_ag {k k' nS nC nH nM : Nat} {h h' : Hp} (g : ag h h') (I : InvN k nS nC nH nM h) (hn : jN k' nM h') : InvN k' nS nC nH nM h' := by
  obtain ⟨s, vN, vS, vF, vV, vC, vB, vR, vH, vL, vM, vP, vT, vX, vA, vK⟩ := I
  have hn0 := s.n
  have k2 := g.2
  have E : ∀ a, a < 151 → hE h' a = hE h a := fun a ha => (k2 a (by omega)).2.2.2.1
  have F : ∀ k a, a < 151 → hF h' k a = hF h k a := fun k a ha => (k2 a (by omega)).2.1 k
  have G : ∀ k a, a < 151 → hG h' k a = hG h k a := fun k a ha => (k2 a (by omega)).2.2.1 k
  have R : ∀ a, a < 151 → hQ h' a = hQ h a := fun a ha => (k2 a (by omega)).2.2.2.2
  have eDD : ∀ a, a < hN h → eD h' a = eD h a := fun a ha => by funext j; unfold eD; rw [(k2 a ha).2.2.2.1]
  have qDD : ∀ a, a < hN h → qD h' a = qD h a := fun a ha => by funext j; unfold qD; rw [(k2 a ha).2.2.2.2]
  refine ⟨St_ag g s, hn, ?_, ?_, ?_, ?_, ?_, ?_, ?_, ?_, ?_, ?_, ?_, ?_, ?_, ?_⟩
  · simp only [jS, E, F, R, Nat.reduceLT]
    exact iS_grow vS g.1 (fun a ha => ⟨(k2 a ha).1, (k2 a ha).2.1 _, (k2 a ha).2.1 _, (k2 a ha).2.1 _, (k2 a ha).2.1 _, (k2 a ha).2.1 _, (k2 a ha).2.1 _, (k2 a ha).2.1 _, (k2 a ha).2.1 _⟩)
  · simp only [jF, E, F, R, Nat.reduceLT]; exact vF
  · simp only [jV, E, F, R, Nat.reduceLT]; exact vV
  · simp only [jC, E, F, R, Nat.reduceLT]
    exact iC_grow vC g.1 (fun a ha => ⟨(k2 a ha).1, (k2 a ha).2.1 _, (k2 a ha).2.1 _, (k2 a ha).2.1 _, (k2 a ha).2.1 _, (k2 a ha).2.1 _, (k2 a ha).2.1 _, (k2 a ha).2.1 _, (k2 a ha).2.1 _, (k2 a ha).2.2.1 _, (k2 a ha).2.2.1 _⟩)
  · simp only [jB, E, F, R, Nat.reduceLT]
    exact iB_grow vB g.1 (fun i a ha => (vC.2.2.2.1 i a ha).2.2.1) (fun a ha => ⟨(k2 a ha).1, (k2 a ha).2.1 _, (k2 a ha).2.1 _, (k2 a ha).2.1 _, (k2 a ha).2.1 _, qDD a ha⟩)
  · simp only [jR, E, F, R, Nat.reduceLT]
    refine ⟨?_, vR.2⟩
    intro i a j ha h1 h2
    have := (vC.2.2.2.1 i a ha).2.2.1
    rw [eDD (a + 1) (show a + 1 < hN h by omega)]
    exact vR.1 i a j ha h1 h2
  · simp only [jH, E, F, G, R, Nat.reduceLT]
    exact iH_grow vH g.1 (fun a ha => ⟨(k2 a ha).1, (k2 a ha).2.2.1 _, (k2 a ha).2.2.1 _, (k2 a ha).2.2.1 _, (k2 a ha).2.1 _, (k2 a ha).2.2.1 _⟩)
  · simp only [jL, E, F, G, R, Nat.reduceLT]
    intro i a p ha hp
    obtain ⟨d1, d2, d3, d4, d5, p', d6, d7⟩ := vH.2.2.2.1 i a ha
    rw [(k2 a d3).2.2.1 _] at hp
    rw [d6] at hp; cases hp
    have d8 := d7.2.2.2.2.2.2.2.2
    rw [eDD (p + 1) (show p + 1 < hN h by omega), eDD (p + 2) (show p + 2 < hN h by omega), eDD (p + 3) (show p + 3 < hN h by omega), (k2 p (by omega)).2.1]
    exact vL i a p ha d6
  · simp only [jM, E, F, R, Nat.reduceLT]
    exact iM_grow vM g.1 (fun a ha => ⟨(k2 a ha).1, (k2 a ha).2.1 _, (k2 a ha).2.1 _, (k2 a ha).2.1 _, (k2 a ha).2.1 _, (k2 a ha).2.1 _, (k2 a ha).2.1 _, (k2 a ha).2.1 _⟩)
  · simp only [jP, E, F, R, Nat.reduceLT]; exact vP
  · simp only [jT, E, F, R, Nat.reduceLT]; exact vT
  · simp only [jX, E, F, R, Nat.reduceLT, Nat.reduceMul, Nat.reduceAdd]; exact vX
  · simp only [jA, E, F, R, Nat.reduceLT]; exact vA
  · simp only [jK, E, F, R, Nat.reduceLT]; exact vK
