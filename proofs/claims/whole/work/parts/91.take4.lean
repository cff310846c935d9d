/-! TAKEWATER: the class, whole -/
def tcL (h : Hp) (a z p nl : Nat) (ends : Nat → Nat) : Nat := frP (lnB (hE (bvH h a z) 89) (hE h (p + 1)) ends) 0 nl
def tcS (h : Hp) (a z p j hd nl nM : Nat) (ends : Nat → Nat) : Hp :=
  if hF h 6 z = 0 ∨ nM = 250 then h else if tcL h a z p nl ends = nl then bvH h a z else tcH (bvH h a z) a z p j hd (tcL h a z p nl ends) nM
section H
variable {d : Nat} {h : Hp} {Q : Option AV → Hp → Prop}
theorem c_take {a z b p j hd nb kk nH nM nl : Nat} {ends : Nat → Nat} (s : St h) (F : tkF h a z b p j hd nb kk nH) (hM : hF h 81 64 = Int32.ofNat nM) (h250 : nM ≤ 250)
    (hp : 151 ≤ p ∨ p = 85) (hn : nl ≤ 12) (hsz : hF h 34 p = Int32.ofNat nl) (he0 : ends 0 = 0) (he : ∀ l, l < nl → hE h (p + 2) l = Int32.ofNat (ends (l + 1))) (hk : lnK (hE h (p + 1)) ends nl)
    (ha2 : a < hN h) (hz2 : z < hN h) (z64 : 64 ≤ z) (hb2 : b < hN h) (hp2 : p + 3 < hN h) (n151 : 151 ≤ hN h) : Wc (d + 3) 96 [.inr (.inr (some 64)), .inr (.inr (some a)), .inl (Int32.ofNat j), .inl (Int32.ofNat hd)] h Q ↔ Q none (tcS h a z p j hd nl nM ends) := by
  by_cases c : hF h 6 z = 0 ∨ nM = 250
  · rw [tcS, if_pos c]
    exact c_take_no s F hM h250 c
  · have h0 : ¬ hF h 6 z = 0 := fun w => c (Or.inl w)
    have h1 : nM ≠ 250 := fun w => c (Or.inr w)
    rw [tcS, if_neg c]
    refine c_take_h s F hM (by omega) h0 hp hn hsz he0 he hk ?_
    have ff := frP_f (f := lnB (hE (bvH h a z) 89) (hE h (p + 1)) ends) nl 0
    have fr := frP_r (f := lnB (hE (bvH h a z) 89) (hE h (p + 1)) ends) nl 0
    rw [← ff]
    unfold tcL
    generalize frP (lnB (hE (bvH h a z) 89) (hE h (p + 1)) ends) 0 nl = l at fr ⊢
    by_cases e : l = nl
    · rw [if_pos e, if_neg (show ¬ l < 0 + nl by omega), if_pos rfl]
    · have e2 : l < 0 + nl := by omega
      rw [if_neg e, if_pos e2, if_neg (n_m1 (by omega))]
      obtain ⟨f1, f2, f3, f4, f5, f6, f7, f8, f9, g1, g2, g3, g4, g5, g6, g7, g8, g9, g10, g11, g12, g13⟩ := F
      obtain ⟨w1, w2, w3, w4, w5, w6⟩ := bvH_r (h := h) (a := a) (z := z)
      exact c_take_3 (bvH_St s) (by rw [w1]; exact f1) (by rw [w5]; exact ha2) (by rw [w1]; exact f9) (by rw [w5]; exact hz2) z64 (by rw [w1]; exact g5) (by rw [w5]; exact hb2) (by rw [w1]; exact g7) (by rw [w5]; exact hp2) (by rw [w3]; exact g6) (by rw [w3]; exact g13) (by rw [w1]; exact g10) (by omega) (by rw [w2]; exact hM) (by omega) (by rw [w5]; exact n151)
end H
