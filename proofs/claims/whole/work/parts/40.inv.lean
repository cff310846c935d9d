/-! THE INVARIANT between the class's cells and the reference's -/
/-- int rows that can be made later (and the draft's) -/
def eD (h : Hp) (a i : Nat) : Int32 := if a < 86 ∨ 89 ≤ a ∧ a < 151 then 0 else hE h a i
/-- rows of references that are made later -/
def qD (h : Hp) (a i : Nat) : Option Nat := if a < 151 then none else hQ h a i
theorem eD_at {h : Hp} {a : Nat} (ha : ¬ (a < 86 ∨ 89 ≤ a ∧ a < 151)) : eD h a = hE h a := by funext i; unfold eD; rw [if_neg ha]
theorem qD_at {h : Hp} {a : Nat} (ha : 151 ≤ a) : qD h a = hQ h a := by funext i; unfold qD; rw [if_neg (by omega)]
theorem eD_sF {h : Hp} {k a : Nat} {v : Int32} : eD (sF h k a v) = eD h := id rfl
theorem eD_sG {h : Hp} {k a : Nat} {v : Option Nat} : eD (sG h k a v) = eD h := id rfl
theorem eD_sQ {h : Hp} {k a : Nat} {v : Option Nat} : eD (sQ h k a v) = eD h := id rfl
theorem eD_sE {h : Hp} {b i : Nat} {v : Int32} (hb : b < 86 ∨ 89 ≤ b ∧ b < 151) : eD (sE h b i v) = eD h := by
  funext a j
  unfold eD
  by_cases ha : a < 86 ∨ 89 ≤ a ∧ a < 151
  · rw [if_pos ha, if_pos ha]
  · rw [if_neg ha, if_neg ha, hE_sE, if_neg (by omega)]
theorem eD_cpE {h : Hp} {a sp b dp n : Nat} (hb : b < 86 ∨ 89 ≤ b ∧ b < 151) : eD (cpE h a sp b dp n) = eD h := by
  funext x j
  unfold eD
  by_cases ha : x < 86 ∨ 89 ≤ x ∧ x < 151
  · rw [if_pos ha, if_pos ha]
  · rw [if_neg ha, if_neg ha, hE_cpE, if_neg (by omega)]
theorem qD_sF {h : Hp} {k a : Nat} {v : Int32} : qD (sF h k a v) = qD h := id rfl
theorem qD_sG {h : Hp} {k a : Nat} {v : Option Nat} : qD (sG h k a v) = qD h := id rfl
theorem qD_sE {h : Hp} {b i : Nat} {v : Int32} : qD (sE h b i v) = qD h := id rfl
theorem qD_cpE {h : Hp} {a sp b dp n : Nat} : qD (cpE h a sp b dp n) = qD h := id rfl
theorem qD_sQ {h : Hp} {b i : Nat} {v : Option Nat} (hb : b < 151) : qD (sQ h b i v) = qD h := by
  funext a j
  unfold qD
  by_cases ha : a < 151
  · rw [if_pos ha, if_pos ha]
  · rw [if_neg ha, if_neg ha, hQ_sQ, if_neg (by omega)]
theorem qD_nw_ne {h : Hp} {c l s a : Nat} (ha : a ≠ hN h) : qD (nw h c l s) a = qD h a := by
  funext i; unfold qD; rw [hQ_nw_ne ha]
theorem eD_nw_ne {h : Hp} {c l s a : Nat} (ha : a ≠ hN h) : eD (nw h c l s) a = eD h a := by
  funext i; unfold eD; rw [hE_nw_ne ha]
abbrev Rng (x : Int32) (a b : Int) : Prop := a ≤ x.toInt ∧ x.toInt ≤ b
/-- room -/
def iN (k nM N U : Nat) : Prop := N ≤ 151 + 6 * k + nM ∧ U ≤ 20000 + 300 * k + 10 * nM
/-- stations -/
def iS (nS : Nat) (cs ts : Int32) (q : Nat → Option Nat) (S : Nat → Nat × Nat) (N : Nat) (fx fy fd fw ff ft fl fa ex ey ed ew ef et el ea : Nat → Int32) : Prop :=
  cs = Int32.ofNat nS ∧ ts = Int32.ofNat nS ∧ nS ≤ 8 ∧
  (∀ i a, q i = some a → i < nS ∧ 151 ≤ a ∧ a < N ∧ S a = (10, 0) ∧ fx a = ex i ∧ fy a = ey i ∧ fd a = ed i ∧ fw a = ew i ∧ ff a = ef i ∧ ft a = et i ∧ fl a = el i ∧ fa a = ea i) ∧
  (∀ i, i < nS → ∃ a, q i = some a) ∧ (∀ i j a, q i = some a → q j = some a → i = j) ∧
  (∀ i, i < nS → Rng (ex i) (-50) 50 ∧ Rng (ey i) (-50) 50 ∧ Rng (ed i) 1 900 ∧ Rng (ew i) 1 99 ∧ Rng (ef i) 0 200 ∧ Rng (et i) 0 200 ∧ Rng (el i) 0 2) ∧
  (∀ i, nS ≤ i → i < 8 → el i = 0 ∧ ea i = 0)
/-- hours -/
def iF (e1 e2 : Nat → Int32) : Prop := ∀ i, i < 201 → e1 i = e2 i ∧ (e2 i = 0 ∨ e2 i = 1)
/-- speed, minute, status -/
def iV (sp sp2 mi mi2 st st2 : Int32) : Prop := sp = sp2 ∧ Rng sp2 1 20 ∧ mi = mi2 ∧ Rng mi2 0 12000 ∧ st = st2
/-- casts -/
def iC (nC nS : Nat) (cc tc : Int32) (q : Nat → Option Nat) (S : Nat → Nat × Nat) (N : Nat) (fnum fkind fst fdep fbc fbeg fleft frc : Nat → Int32) (gb gr : Nat → Option Nat) (ekind est edep ebeg eleft ebot eread : Nat → Int32) : Prop :=
  cc = Int32.ofNat nC ∧ tc = Int32.ofNat nC ∧ nC ≤ 30 ∧
  (∀ i a, q i = some a → i < nC ∧ 151 ≤ a ∧ a + 2 < N ∧ S a = (3, 0) ∧ S (a + 1) = (100, 91) ∧ S (a + 2) = (302, if ekind i = 1 then 8 else 0) ∧ gr a = some (a + 1) ∧ gb a = some (a + 2) ∧ fnum a = Int32.ofNat i ∧ fkind a = ekind i ∧ fst a = est i ∧ fdep a = edep i ∧ fbc a = ebot i ∧ fbeg a = ebeg i ∧ fleft a = eleft i ∧ frc a = eread i) ∧
  (∀ i, i < nC → ∃ a, q i = some a) ∧ (∀ i j a, q i = some a → q j = some a → i = j) ∧
  (∀ i, i < nC → Rng (ekind i) 0 5 ∧ (∃ s, s < nS ∧ est i = Int32.ofNat s) ∧ Rng (edep i) 1 900 ∧ Rng (ebeg i) (-1) 12000 ∧ (eleft i = 0 ∨ eleft i = 1) ∧ (∃ nb, nb ≤ 8 ∧ ebot i = Int32.ofNat nb ∧ (ekind i ≠ 1 → nb = 0)) ∧ ∃ nr, nr ≤ 91 ∧ eread i = Int32.ofNat nr) ∧
  (∀ i, nC ≤ i → i < 30 → eleft i = 0 ∧ ebot i = 0 ∧ eread i = 0)
/-- bottles -/
def iB (nC : Nat) (q : Nat → Option Nat) (QQ : Nat → Nat → Option Nat) (S : Nat → Nat × Nat) (N : Nat) (fd ff fs fl ekind ebot ed ef es el : Nat → Int32) : Prop :=
  (∀ i a j z, q i = some a → QQ (a + 2) j = some z → Int32.ofNat j < ebot i ∧ j < 8 ∧ 151 ≤ z ∧ z < N ∧ S z = (2, 0) ∧ fd z = ed (8 * i + j) ∧ ff z = ef (8 * i + j) ∧ fs z = es (8 * i + j) ∧ fl z = el (8 * i + j)) ∧
  (∀ i a j, q i = some a → j < 8 → Int32.ofNat j < ebot i → ∃ z, QQ (a + 2) j = some z) ∧
  (∀ i i2 a a2 j j2 z, q i = some a → q i2 = some a2 → QQ (a + 2) j = some z → QQ (a2 + 2) j2 = some z → i = i2 ∧ j = j2) ∧
  (∀ i j, i < nC → j < 8 → Int32.ofNat j < ebot i → Rng (ed (8 * i + j)) 0 900 ∧ (ef (8 * i + j) = 0 ∨ ef (8 * i + j) = 1) ∧ Rng (es (8 * i + j)) (-1) 13000 ∧ Rng (el (8 * i + j)) 0 10 ∧ (el (8 * i + j) ≠ 0 → 0 ≤ (es (8 * i + j)).toInt)) ∧
  (∀ i j, i < 30 → j < 8 → (nC ≤ i ∨ ebot i ≤ Int32.ofNat j) → ef (8 * i + j) = 0 ∧ el (8 * i + j) = 0)
/-- a number of a sheet, or none: how each side writes it -/
def rdn (u v : Int32) : Prop := (u = -1000000 ∧ v = 100000) ∨ (u = v ∧ Rng v (-1000) 1000)
/-- readings -/
def iR (q : Nat → Option Nat) (E : Nat → Nat → Int32) (eread er : Nat → Int32) : Prop :=
  ∀ i a j, q i = some a → Int32.ofNat j < eread i → j < 91 → rdn (E (a + 1) j) (er (91 * i + j))
/-- an object of lines -/
def lob (S : Nat → Nat × Nat) (N : Nat) (g1 g2 g3 : Nat → Option Nat) (p : Nat) : Prop :=
  S p = (6, 0) ∧ S (p + 1) = (100, 160) ∧ S (p + 2) = (100, 12) ∧ S (p + 3) = (100, 12) ∧ g1 p = some (p + 1) ∧ g2 p = some (p + 2) ∧ g3 p = some (p + 3) ∧ (p = 85 ∨ 151 ≤ p) ∧ p + 3 < N
/-- hands -/
def iH (nH : Nat) (cc tc : Int32) (q : Nat → Option Nat) (S : Nat → Nat × Nat) (N : Nat) (fsp esp eln : Nat → Int32) (gp g1 g2 g3 : Nat → Option Nat) (dr : Option Nat) : Prop :=
  cc = Int32.ofNat nH ∧ tc = Int32.ofNat nH ∧ nH ≤ 8 ∧
  (∀ i a, q i = some a → i < nH ∧ 151 ≤ a ∧ a < N ∧ S a = (4, 0) ∧ fsp a = esp i ∧ ∃ p, gp a = some p ∧ lob S N g1 g2 g3 p) ∧
  (∀ i, i < nH → ∃ a, q i = some a) ∧ (∀ i j a, q i = some a → q j = some a → i = j) ∧
  (∀ i j a b p, q i = some a → q j = some b → gp a = some p → gp b = some p → i = j) ∧
  (∃ p, dr = some p ∧ lob S N g1 g2 g3 p ∧ ∀ i a, q i = some a → gp a ≠ some p) ∧
  (∀ i, i < nH → Rng (esp i) 0 9) ∧ (∀ i, nH ≤ i → i < 8 → eln i = 0)
/-- a step as each side writes it -/
def rop (s w g n : Int32) : Prop := (s = -1 ∧ w = 10) ∨ (s = -2 ∧ w = 11) ∨ (s = -3 ∧ w = 12) ∨ ∃ v m : Nat, v < 4 ∧ m < 1000 ∧ w = Int32.ofNat (v + 5) ∧ n = Int32.ofNat m ∧ ((g = 60 ∧ s = Int32.ofNat (8 * m + 2 * v)) ∨ (g = 61 ∧ s = Int32.ofNat (8 * m + 2 * v + 1)))
/-- how many wait behind steps from a to b: none where there are too few or too many -/
def dep (st : Nat → Int32) (a : Nat) : Nat → Option Nat
  | 0 => some 0
  | n + 1 => (dep st a n).bind fun w => if 0 ≤ st (a + n) then (if w < 20 then some (w + 1) else none) else if st (a + n) = -1 then (if 1 ≤ w then some w else none) else (if 2 ≤ w then some (w - 1) else none)
/-- the lines of a hand -/
def rln (st en tk : Nat → Int32) (sz ln : Int32) (lo co : Nat → Int32) : Prop :=
  ∃ (nl : Nat) (ends : Nat → Nat), nl ≤ 12 ∧ sz = Int32.ofNat nl ∧ ln = Int32.ofNat nl ∧ ends 0 = 0 ∧ (∀ l, l < nl → ends l ≤ ends (l + 1)) ∧ ends nl ≤ 60 ∧
    (∀ l, l < nl → tk l = lo (3 * l) ∧ Rng (tk l) 1 10 ∧ en l = Int32.ofNat (ends (l + 1)) ∧ lo (3 * l + 1) = Int32.ofNat (ends l) ∧ lo (3 * l + 2) = Int32.ofNat (ends (l + 1)) ∧ (ends (l + 1) = ends l ∨ dep st (ends l) (ends (l + 1) - ends l) = some 1)) ∧
    (∀ k, k < ends nl → rop (st k) (co (3 * k)) (co (3 * k + 1)) (co (3 * k + 2)))
def iL (q gp : Nat → Option Nat) (E : Nat → Nat → Int32) (fsz eln elo eco : Nat → Int32) : Prop :=
  ∀ i a p, q i = some a → gp a = some p → rln (E (p + 1)) (E (p + 2)) (E (p + 3)) (fsz p) (eln i) (fun k => elo (36 * i + k)) (fun k => eco (180 * i + k))
/-- samples -/
def iM (nM nH nC : Nat) (cc tc : Int32) (q : Nat → Option Nat) (S : Nat → Nat × Nat) (N : Nat) (fh fc fb fp fl fpl fst eh ec eb ep el epl est ebot : Nat → Int32) : Prop :=
  cc = Int32.ofNat nM ∧ tc = Int32.ofNat nM ∧ nM ≤ 250 ∧
  (∀ i a, q i = some a → i < nM ∧ 151 ≤ a ∧ a < N ∧ S a = (8, 0) ∧ fh a = eh i ∧ fc a = ec i ∧ fb a = eb i ∧ fp a = ep i ∧ fl a = el i ∧ fst a = est i ∧ fpl a = if est i = 0 then epl i else -1) ∧
  (∀ i, i < nM → ∃ a, q i = some a) ∧ (∀ i j a, q i = some a → q j = some a → i = j) ∧
  (∀ i, i < nM → (∃ n, n < nH ∧ eh i = Int32.ofNat n) ∧ (∃ c b : Nat, c < nC ∧ b < 8 ∧ ec i = Int32.ofNat c ∧ eb i = Int32.ofNat b ∧ eb i < ebot c) ∧ Rng (ep i) 1 10 ∧ Rng (epl i) (-1) 59 ∧ Rng (est i) 0 2)
/-- places -/
def iP (nM : Nat) (pl epl est : Nat → Int32) : Prop :=
  ∀ p, p < 60 → (pl p = -1 ∧ ∀ i, i < nM → est i = 0 → epl i ≠ Int32.ofNat p) ∨ ∃ i, i < nM ∧ pl p = Int32.ofNat i ∧ est i = 0 ∧ epl i = Int32.ofNat p ∧ ∀ j, j < nM → est j = 0 → epl j = Int32.ofNat p → j = i
/-- the tape, the latest fault -/
def iT (ln ln2 fk fk2 fp fp2 : Int32) (tp tp2 : Nat → Int32) : Prop :=
  (∃ n, n ≤ 160 ∧ ln = Int32.ofNat n ∧ ln2 = Int32.ofNat n ∧ ∀ i, i < n → tp i = tp2 i ∧ Rng (tp2 i) 0 255) ∧ fk = fk2 ∧ fp = fp2
/-- a sheet -/
def iX1 (k : Nat) (so sz : Int32) (nu es ez ec : Nat → Int32) : Prop :=
  so = es k ∧ sz = ez k ∧ Rng (es k) (-1) 2 ∧ Rng (ez k) 0 100 ∧ (es k = -1 → ez k = 0) ∧ ∀ j, j < 100 → (nu j = ec (100 * k + j) ∧ Rng (nu j) (-1000) 1000) ∨ (es k = 2 ∧ nu j = -1000000 ∧ ec (100 * k + j) = 100000)
/-- the trace -/
def iA (ts ts2 : Int32) (tr tr2 : Nat → Int32) : Prop :=
  ∃ n, n ≤ 40 ∧ ts2 = Int32.ofNat n ∧ ts = Int32.ofNat (min n 50) ∧ ∀ i, i < min n 50 → tr i = tr2 i
