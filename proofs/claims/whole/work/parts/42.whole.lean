/-! THE INVARIANT, whole -/
abbrev jN (k nM : Nat) (h : Hp) : Prop := iN k nM (hN h) (hU h)
abbrev jS (nS : Nat) (h : Hp) : Prop := iS nS (hF h 69 64) (hF h 86 103) (hQ h 65) (hS h) (hN h) (hF h 60) (hF h 61) (hF h 62) (hF h 63) (hF h 64) (hF h 65) (hF h 66) (hF h 67) (hE h 104) (hE h 105) (hE h 106) (hE h 107) (hE h 108) (hE h 109) (hE h 110) (hE h 111)
abbrev jF (h : Hp) : Prop := iF (hE h 66) (hE h 112)
abbrev jV (h : Hp) : Prop := iV (hF h 71 64) (hF h 96 103) (hF h 79 64) (hF h 110 103) (hF h 85 64) (hF h 131 103)
abbrev jC (nC nS : Nat) (h : Hp) : Prop := iC nC nS (hF h 74 64) (hF h 97 103) (hQ h 78) (hS h) (hN h) (hF h 7) (hF h 8) (hF h 9) (hF h 10) (hF h 12) (hF h 13) (hF h 14) (hF h 16) (hG h 11) (hG h 15) (hE h 113) (hE h 114) (hE h 115) (hE h 116) (hE h 117) (hE h 118) (hE h 123)
abbrev jB (nC : Nat) (h : Hp) : Prop := iB nC (hQ h 78) (qD h) (hS h) (hN h) (hF h 3) (hF h 4) (hF h 5) (hF h 6) (hE h 113) (hE h 118) (hE h 119) (hE h 120) (hE h 121) (hE h 122)
/-- no bottle is deeper than its cast -/
def iD (edep ebot ed : Nat → Int32) : Prop := ∀ i j, i < 30 → j < 8 → Int32.ofNat j < ebot i → (ed (8 * i + j)).toInt ≤ (edep i).toInt
/-- no water in the bottles of a cast that is not done -/
def iE (ebeg el : Nat → Int32) : Prop := ∀ i j, i < 30 → j < 8 → ebeg i = -1 → el (8 * i + j) = 0
abbrev jR (h : Hp) : Prop := iR (hQ h 78) (eD h) (hE h 123) (hE h 124) ∧ iD (hE h 115) (hE h 118) (hE h 119) ∧ iE (hE h 116) (hE h 122)
abbrev jH (nH : Nat) (h : Hp) : Prop := iH nH (hF h 76 64) (hF h 111 103) (hQ h 79) (hS h) (hN h) (hF h 17) (hE h 125) (hE h 126) (hG h 18) (hG h 30) (hG h 32) (hG h 33) (hG h 29 80)
abbrev jL (h : Hp) : Prop := iL (hQ h 79) (hG h 18) (eD h) (hF h 34) (hE h 126) (hE h 127) (hE h 128)
abbrev jM (nM nH nC : Nat) (h : Hp) : Prop := iM nM nH nC (hF h 81 64) (hF h 116 103) (hQ h 90) (hS h) (hN h) (hF h 50) (hF h 51) (hF h 52) (hF h 53) (hF h 54) (hF h 55) (hF h 56) (hE h 129) (hE h 130) (hE h 131) (hE h 132) (hE h 135) (hE h 133) (hE h 134) (hE h 118)
abbrev jP (nM : Nat) (h : Hp) : Prop := iP nM (hE h 91) (hE h 133) (hE h 134)
abbrev jT (h : Hp) : Prop := iT (hF h 20 80) (hF h 125 103) (hF h 21 80) (hF h 126 103) (hF h 22 80) (hF h 127 103) (hE h 81) (hE h 136)
abbrev jX (k : Nat) (h : Hp) : Prop := iX1 k (hF h 57 (95 + 2 * k)) (hF h 58 (95 + 2 * k)) (hE h (96 + 2 * k)) (hE h 137) (hE h 138) (hE h 139)
abbrev jA (h : Hp) : Prop := iA (hF h 1 92) (hF h 133 103) (hE h 93) (hE h 140)
abbrev jK (nS nC : Nat) (h : Hp) : Prop := iK (mkP nS nC (hF h 96 103) (hE h 104) (hE h 105) (hE h 107) (hE h 108) (hE h 109) (hE h 110) (hE h 111) (hE h 112) (hE h 113) (hE h 114) (hE h 115) (hE h 116) (hE h 118)) (hF h 35 67) (hF h 36 67) (hF h 37 67) (hF h 38 67) (hE h 68) (hE h 69) (hF h 144 103) (hF h 145 103) (hF h 146 103) (hF h 147 103) (hE h 144) (hE h 145)
def InvN (k nS nC nH nM : Nat) (h : Hp) : Prop :=
  St h ∧ jN k nM h ∧ jS nS h ∧ jF h ∧ jV h ∧ jC nC nS h ∧ jB nC h ∧ jR h ∧ jH nH h ∧ jL h ∧ jM nM nH nC h ∧ jP nM h ∧ jT h ∧ (jX 0 h ∧ jX 1 h ∧ jX 2 h ∧ jX 3 h) ∧ jA h ∧ jK nS nC h
def Inv (k : Nat) (h : Hp) : Prop := ∃ nS nC nH nM : Nat, InvN k nS nC nH nM h
/-- what a call of both sides owes -/
def Ow (k : Nat) (r r2 : Option AV) (h : Hp) : Prop := ∃ x : Int32, r = some (.inl x) ∧ r2 = some (.inl x) ∧ Inv (k + 1) h
