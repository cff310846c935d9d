/-! SOUNDNESS, 3: the world of the small heap -/
def al (base : Nat) (od : Nat → Nat) (a : Nat) : Nat := if a < 64 then od a else base + (a - 64)
theorem al_new {base : Nat} {od : Nat → Nat} {a : Nat} (h : 64 ≤ a) : al base od a = base + (a - 64) := if_neg (by omega)
theorem al_old {base : Nat} {od : Nat → Nat} {a : Nat} (h : a < 64) : al base od a = od a := if_pos h
def cv (g : Nat → Nat) : AV → Value
  | .inl x => .int x
  | .inr (.inl x) => .long x
  | .inr (.inr r) => va_rf (r.map g)
def fldv (g : Nat → Nat) (h : Hp) (f a : Nat) : Value := if ftc f = 2 then va_rf ((hG h f a).map g) else .int (hF h f a)
def flds (g : Nat → Nat) (h : Hp) (c a : Nat) : List Value := (List.range (cN c)).map (fun j => fldv g h (fb c + j) a)
def cE (g : Nat → Nat) (ca : Nat → ClassId) (h : Hp) (a : Nat) : va_E := if (hS h a).1 < 100 then .inr ((hS h a).1 - 1, flds g h (hS h a).1 a) else .inl (ca (hS h a).1, (hS h a).2, if (hS h a).1 < 300 then .inl (hE h a) else .inr (.inr (.inr (.inr (fun i => (hQ h a i).map g)))))
def lsH (base : Nat) (h : Hp) : List Nat := (List.range (hN h - 64)).map (fun k => base + k)
def wsH (base : Nat) (g : Nat → Nat) (ca : Nat → ClassId) (h : Hp) : va_W := va_pl (lsH base h) (fun q => cE g ca h (q - base + 64))
theorem mem_lsH {base : Nat} {h : Hp} {q : Nat} : q ∈ lsH base h ↔ base ≤ q ∧ q < base + (hN h - 64) := by
  unfold lsH
  rw [List.mem_map]
  constructor
  · rintro ⟨k, hk, rfl⟩
    have := List.mem_range.mp hk
    omega
  · rintro ⟨h1, h2⟩
    exact ⟨q - base, List.mem_range.mpr (by omega), by omega⟩
theorem wsH_get {base : Nat} {g : Nat → Nat} {ca : Nat → ClassId} {h : Hp} {a : Nat} (h1 : 64 ≤ a) (h2 : a < hN h) : ∃ k : Nat, (wsH base g ca h)[k]? = some (base + (a - 64), cE g ca h a) := by
  obtain ⟨k, hk⟩ := va_pl_get (X := []) (f := fun q => cE g ca h (q - base + 64)) (mem_lsH.mpr ⟨Nat.le_add_right base (a - 64), by omega⟩ : base + (a - 64) ∈ lsH base h)
  refine ⟨k, ?_⟩
  have e : base + (a - 64) - base + 64 = a := by omega
  rw [List.nil_append] at hk
  unfold wsH
  rw [hk, e]
theorem wsH_D {base : Nat} {g : Nat → Nat} {ca : Nat → ClassId} {h : Hp} : va_D (fun q => base ≤ q) (wsH base g ca h) := by
  have key : ∀ (i : Nat) (x : Nat × va_E), (wsH base g ca h)[i]? = some x → x.1 = base + i := by
    intro i x hx
    simp only [wsH, va_pl, lsH, List.map_map, List.getElem?_map] at hx
    cases hr : (List.range (hN h - 64))[i]? with
    | none => rw [hr] at hx; cases hx
    | some k =>
      rw [hr] at hx
      obtain ⟨hlt, hk⟩ := List.getElem?_eq_some_iff.mp hr
      rw [List.getElem_range] at hk
      cases hx
      simp [hk]
  refine ⟨fun i j x z hi hj e => ?_, fun k x hk => ?_⟩
  · rw [key i x hi, key j z hj] at e; omega
  · show base ≤ x.1; rw [key k x hk]; omega
theorem wsH_set {base : Nat} {g : Nat → Nat} {ca : Nat → ClassId} {h h' : Hp} {a k : Nat} (h1 : 64 ≤ a) (h2 : a < hN h) (hk : (wsH base g ca h)[k]? = some (base + (a - 64), cE g ca h a)) (hn : hN h' = hN h) (hc : ∀ b, b ≠ a → cE g ca h' b = cE g ca h b) {en : va_E} (he : cE g ca h' a = en) : (wsH base g ca h).set k (base + (a - 64), en) = wsH base g ca h' := by
  have e : base + (a - 64) - base + 64 = a := by omega
  have hm : base + (a - 64) ∈ lsH base h := mem_lsH.mpr ⟨Nat.le_add_right base (a - 64), by omega⟩
  have hs := va_pl_set (A := fun q => base ≤ q) (X := []) (L := lsH base h) (f := fun q => cE g ca h (q - base + 64)) (a := base + (a - 64)) (k := k) (e := en) wsH_D hm (by rw [List.nil_append]; show (wsH base g ca h)[k]? = _; rw [hk]; simp only [e])
  rw [List.nil_append, List.nil_append] at hs
  show (va_pl _ _).set k _ = _
  rw [hs]
  unfold wsH va_pl
  have hl : lsH base h' = lsH base h := by unfold lsH; rw [hn]
  rw [hl]
  apply List.map_congr_left
  intro q hq
  have hb := mem_lsH.mp hq
  by_cases hqa : q = base + (a - 64)
  · subst hqa
    rw [va_up_self]
    show (base + (a - 64), en) = (base + (a - 64), cE g ca h' (base + (a - 64) - base + 64))
    rw [e, he]
  · rw [va_up_ne _ _ hqa]
    show _ = (q, cE g ca h' (q - base + 64))
    rw [hc (q - base + 64) (by omega)]
theorem wsH_push {base : Nat} {g : Nat → Nat} {ca : Nat → ClassId} {h h' : Hp} (h64 : 64 ≤ hN h) (hn : hN h' = hN h + 1) (hc : ∀ b, b < hN h → cE g ca h' b = cE g ca h b) : wsH base g ca h ++ [(base + (hN h - 64), cE g ca h' (hN h))] = wsH base g ca h' := by
  unfold wsH va_pl lsH
  rw [hn, show hN h + 1 - 64 = (hN h - 64) + 1 by omega, List.range_succ, List.map_append, List.map_append, List.map_cons, List.map_cons, List.map_nil, List.map_nil]
  congr 1
  · simp only [List.map_map]
    apply List.map_congr_left
    intro k hk
    have := List.mem_range.mp hk
    simp only [Function.comp]
    rw [hc (base + k - base + 64) (by omega)]
  · show _ = [(base + (hN h - 64), cE g ca h' (base + (hN h - 64) - base + 64))]
    rw [show base + (hN h - 64) - base + 64 = hN h by omega]
def okS (s : Nat × Nat) : Prop := (1 ≤ s.1 ∧ s.1 ≤ 12 ∧ s.2 = 0) ∨ s.1 = 100 ∨ s.1 = 101 ∨ s.1 ∈ [302, 303, 304, 308, 309, 310]
/-- the old cells stay; what is made has a shape -/
def Iv (h0 h : Hp) : Prop := 64 ≤ hN h ∧ (∀ a, a < 64 → hS h a = hS h0 a ∧ hE h a = hE h0 a ∧ ∀ k, hF h k a = hF h0 k a ∧ hG h k a = hG h0 k a) ∧ (∀ a, hN h ≤ a → hS h a = (0, 0)) ∧ ∀ a, 64 ≤ a → a < hN h → okS (hS h a)
def Z0 (h0 : Hp) : Prop := ∀ a, a < 64 → (hS h0 a).1 = 0 ∨ (hS h0 a).1 = 13 ∨ (hS h0 a).1 = 200 ∨ (hS h0 a).1 = 202
theorem Iv.new {h0 h : Hp} (z : Z0 h0) (i : Iv h0 h) {a : Nat} (h1 : (hS h a).1 ≠ 0) (h2 : (hS h a).1 ≠ 13) (h3 : (hS h a).1 ≠ 200) (h4 : (hS h a).1 ≠ 202) : 64 ≤ a ∧ a < hN h := by
  obtain ⟨i1, i2, i3, i4⟩ := i
  constructor
  · rcases Nat.lt_or_ge a 64 with q | q
    · have := z a q
      rw [← (i2 a q).1] at this
      rcases this with t | t | t | t <;> contradiction
    · exact q
  · rcases Nat.lt_or_ge a (hN h) with q | q
    · exact q
    · rw [i3 a q] at h1; exact absurd rfl h1
theorem Iv.sF {h0 h : Hp} (i : Iv h0 h) {k a : Nat} {v : Int32} (ha : 64 ≤ a) : Iv h0 (sF h k a v) := by
  obtain ⟨i1, i2, i3, i4⟩ := i
  refine ⟨i1, fun b hb => ⟨(i2 b hb).1, (i2 b hb).2.1, fun f => ⟨?_, ((i2 b hb).2.2 f).2⟩⟩, i3, i4⟩
  rw [hF_sF, if_neg (by omega)]
  exact ((i2 b hb).2.2 f).1
theorem Iv.sG {h0 h : Hp} (i : Iv h0 h) {k a : Nat} {v : Option Nat} (ha : 64 ≤ a) : Iv h0 (sG h k a v) := by
  obtain ⟨i1, i2, i3, i4⟩ := i
  refine ⟨i1, fun b hb => ⟨(i2 b hb).1, (i2 b hb).2.1, fun f => ⟨((i2 b hb).2.2 f).1, ?_⟩⟩, i3, i4⟩
  rw [hG_sG, if_neg (by omega)]
  exact ((i2 b hb).2.2 f).2
theorem Iv.sE {h0 h : Hp} (i : Iv h0 h) {k a : Nat} {v : Int32} (ha : 64 ≤ a) : Iv h0 (sE h a k v) := by
  obtain ⟨i1, i2, i3, i4⟩ := i
  refine ⟨i1, fun b hb => ⟨(i2 b hb).1, ?_, (i2 b hb).2.2⟩, i3, i4⟩
  rw [← (i2 b hb).2.1]
  funext j
  rw [hE_sE, if_neg (by omega)]
theorem Iv.sQ {h0 h : Hp} (i : Iv h0 h) {k a : Nat} {v : Option Nat} : Iv h0 (sQ h a k v) := i
theorem Iv.cpE {h0 h : Hp} (i : Iv h0 h) {a sp b dp n : Nat} (hb : 64 ≤ b) : Iv h0 (cpE h a sp b dp n) := by
  obtain ⟨i1, i2, i3, i4⟩ := i
  refine ⟨i1, fun x hx => ⟨(i2 x hx).1, ?_, (i2 x hx).2.2⟩, i3, i4⟩
  rw [← (i2 x hx).2.1]
  funext j
  rw [hE_cpE, if_neg (by omega)]
theorem Iv.nw {h0 h : Hp} (i : Iv h0 h) {k n j : Nat} (hk : okS (k, n)) : Iv h0 (nw h k n j) := by
  obtain ⟨i1, i2, i3, i4⟩ := i
  refine ⟨by rw [hN_nw]; omega, fun b hb => ?_, fun a ha => ?_, fun a h1 h2 => ?_⟩
  · have hb' : b ≠ hN h := by omega
    refine ⟨by rw [hS_nw, if_neg hb']; exact (i2 b hb).1, ?_, fun f => ⟨by rw [hF_nw, if_neg hb']; exact ((i2 b hb).2.2 f).1, by rw [hG_nw, if_neg hb']; exact ((i2 b hb).2.2 f).2⟩⟩
    rw [← (i2 b hb).2.1]
    funext j
    rw [hE_nw, if_neg hb']
  · rw [hN_nw] at ha
    rw [hS_nw, if_neg (by omega)]
    exact i3 a (by omega)
  · rw [hN_nw] at h2
    rw [hS_nw]
    by_cases e : a = hN h
    · rw [if_pos e]; exact hk
    · rw [if_neg e]; exact i4 a h1 (by omega)
/-! what a store makes of a cell -/
theorem cE_sF_ne {g : Nat → Nat} {ca : Nat → ClassId} {h : Hp} {k a b : Nat} {v : Int32} (hb : b ≠ a) : cE g ca (sF h k a v) b = cE g ca h b := by
  unfold cE flds fldv
  simp only [hS_sF, hE_sF, hQ_sF, hG_sF, hF_sF, hb, and_false, if_false]
  rfl
theorem cE_sG_ne {g : Nat → Nat} {ca : Nat → ClassId} {h : Hp} {k a b : Nat} {v : Option Nat} (hb : b ≠ a) : cE g ca (sG h k a v) b = cE g ca h b := by
  unfold cE flds fldv
  simp only [hS_sG, hE_sG, hQ_sG, hG_sG, hF_sG, hb, and_false, if_false]
  rfl
theorem hE_sE_ne {h : Hp} {k a b : Nat} {v : Int32} (hb : b ≠ a) : hE (sE h a k v) b = hE h b := by
  funext j; rw [hE_sE, if_neg (fun q => hb q.1)]
theorem hQ_sQ_ne {h : Hp} {k a b : Nat} {v : Option Nat} (hb : b ≠ a) : hQ (sQ h a k v) b = hQ h b := by
  funext j; rw [hQ_sQ, if_neg (fun q => hb q.1)]
theorem hE_cpE_ne {h : Hp} {a sp x dp n b : Nat} (hb : b ≠ x) : hE (cpE h a sp x dp n) b = hE h b := by
  funext j; rw [hE_cpE, if_neg hb]
theorem cE_sE_ne {g : Nat → Nat} {ca : Nat → ClassId} {h : Hp} {k a b : Nat} {v : Int32} (hb : b ≠ a) : cE g ca (sE h a k v) b = cE g ca h b := by
  unfold cE flds fldv
  rw [hE_sE_ne hb]
  simp only [hS_sE, hQ_sE, hG_sE, hF_sE]
  rfl
theorem cE_sQ_ne {g : Nat → Nat} {ca : Nat → ClassId} {h : Hp} {k a b : Nat} {v : Option Nat} (hb : b ≠ a) : cE g ca (sQ h a k v) b = cE g ca h b := by
  unfold cE flds fldv
  rw [hQ_sQ_ne hb]
  simp only [hS_sQ, hE_sQ, hG_sQ, hF_sQ]
  rfl
theorem cE_cpE_ne {g : Nat → Nat} {ca : Nat → ClassId} {h : Hp} {a sp x dp n b : Nat} (hb : b ≠ x) : cE g ca (cpE h a sp x dp n) b = cE g ca h b := by
  unfold cE flds fldv
  rw [hE_cpE_ne hb]
  simp only [hS_cpE, hQ_cpE, hG_cpE, hF_cpE]
  rfl
theorem cE_obj {g : Nat → Nat} {ca : Nat → ClassId} {h : Hp} {a c : Nat} (hs : hS h a = (c, 0)) (hc : c ≤ 12) : cE g ca h a = .inr (c - 1, flds g h c a) := by
  unfold cE; rw [hs, if_pos (by show c < 100; omega)]
theorem cE_int {g : Nat → Nat} {ca : Nat → ClassId} {h : Hp} {a k : Nat} (hs : (hS h a).1 = k) (h1 : 100 ≤ k) (h2 : k < 300) : cE g ca h a = .inl (ca k, (hS h a).2, .inl (hE h a)) := by
  unfold cE; rw [hs, if_neg (by omega), if_pos h2]
theorem cE_ref {g : Nat → Nat} {ca : Nat → ClassId} {h : Hp} {a k : Nat} (hs : (hS h a).1 = k) (h1 : 300 ≤ k) : cE g ca h a = .inl (ca k, (hS h a).2, .inr (.inr (.inr (.inr (fun i => (hQ h a i).map g))))) := by
  unfold cE; rw [hs, if_neg (by omega), if_neg (by omega)]
theorem flds_get {g : Nat → Nat} {h : Hp} {c a j : Nat} (hj : j < cN c) : (flds g h c a)[j]? = some (fldv g h (fb c + j) a) := by
  unfold flds; rw [List.getElem?_map, List.getElem?_range hj]; rfl
theorem flds_sF {g : Nat → Nat} {h : Hp} {c a j : Nat} {v : Int32} (ht : ftc (fb c + j) ≠ 2) : flds g (sF h (fb c + j) a v) c a = (flds g h c a).set j (.int v) := by
  apply List.ext_getElem?
  intro i
  unfold flds
  rw [List.getElem?_set, List.getElem?_map, List.getElem?_map, List.length_map, List.length_range]
  by_cases hi : i < cN c
  · rw [List.getElem?_range hi]
    by_cases hij : j = i
    · subst hij
      rw [if_pos rfl, if_pos hi]
      simp [fldv, ht, hF_sF]
    · rw [if_neg hij]
      simp only [Option.map_some, fldv, hG_sF, hF_sF]
      rw [if_neg (show ¬ (fb c + i = fb c + j ∧ True) from fun q => hij (by omega))]
  · rw [List.getElem?_eq_none (by rw [List.length_range]; omega)]
    by_cases hij : j = i
    · subst hij; rw [if_pos rfl, if_neg hi]; rfl
    · rw [if_neg hij]; rfl
theorem flds_sG {g : Nat → Nat} {h : Hp} {c a j : Nat} {v : Option Nat} (ht : ftc (fb c + j) = 2) : flds g (sG h (fb c + j) a v) c a = (flds g h c a).set j (va_rf (v.map g)) := by
  apply List.ext_getElem?
  intro i
  unfold flds
  rw [List.getElem?_set, List.getElem?_map, List.getElem?_map, List.length_map, List.length_range]
  by_cases hi : i < cN c
  · rw [List.getElem?_range hi]
    by_cases hij : j = i
    · subst hij
      rw [if_pos rfl, if_pos hi]
      simp [fldv, ht, hG_sG]
    · rw [if_neg hij]
      simp only [Option.map_some, fldv, hG_sG, hF_sG]
      rw [if_neg (show ¬ (fb c + i = fb c + j ∧ True) from fun q => hij (by omega))]
  · rw [List.getElem?_eq_none (by rw [List.length_range]; omega)]
    by_cases hij : j = i
    · subst hij; rw [if_pos rfl, if_neg hi]; rfl
    · rw [if_neg hij]; rfl
theorem upd_sE {h : Hp} {a i : Nat} {v : Int32} : upd (hE h a) i v = hE (sE h a i v) a := by
  funext j; rw [hE_sE]; unfold upd; simp
theorem up_sQ {g : Nat → Nat} {h : Hp} {a i : Nat} {v : Option Nat} : va_up (fun i => (hQ h a i).map g) i (v.map g) = fun j => (hQ (sQ h a i v) a j).map g := by
  funext j; rw [hQ_sQ]; unfold va_up; by_cases e : j = i <;> simp [e]
