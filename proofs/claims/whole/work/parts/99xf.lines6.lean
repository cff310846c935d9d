/-! LINES, 6: what is read, as a function of the tokens -/
/-- a step: what, sign, number; whether it could be read, the token behind, the steps -/
abbrev Sp3 : Type := Nat × Nat × Nat
abbrev Prs : Type := Bool × Nat × List Sp3
section P
variable (K N : Nat → Nat)
def pCm (j : Nat) : Prs :=
  if 8 ≤ K j ∧ K j ≤ 11 then (if K (j + 1) = 12 ∨ K (j + 1) = 13 then (if K (j + 2) = 2 then (true, j + 3, [(K j - 3, if K (j + 1) = 12 then 60 else 61, N (j + 2))]) else (false, j + 2, [])) else (false, j + 1, [])) else (false, j, [])
/-- behind the first operand -/
def pBn (P : Nat → Prs) (op code : Nat) : Nat → Nat → List Sp3 → Prs
  | 0, j, l => (true, j, l)
  | f + 1, j, l => if K j = op then (if (P (j + 1)).1 = true then pBn P op code f (P (j + 1)).2.1 (l ++ (P (j + 1)).2.2 ++ [(code, 0, 0)]) else (false, (P (j + 1)).2.1, l ++ (P (j + 1)).2.2 ++ [(code, 0, 0)])) else (true, j, l)
def pSq (P : Nat → Prs) (op code : Nat) (j : Nat) : Prs := if (P j).1 = true then pBn K P op code 160 (P j).2.1 (P j).2.2 else P j
def pNt : Nat → Nat → Prs
  | 0, j => (false, j, [])
  | m + 1, j => if K j = 7 then ((pNt m (j + 1)).1, (pNt m (j + 1)).2.1, (pNt m (j + 1)).2.2 ++ [(10, 0, 0)])
    else if K j = 14 then (if (pSq K (pSq K (pNt m) 5 11) 6 12 (j + 1)).1 = true then (if K (pSq K (pSq K (pNt m) 5 11) 6 12 (j + 1)).2.1 = 15 then (true, (pSq K (pSq K (pNt m) 5 11) 6 12 (j + 1)).2.1 + 1, (pSq K (pSq K (pNt m) 5 11) 6 12 (j + 1)).2.2) else (false, (pSq K (pSq K (pNt m) 5 11) 6 12 (j + 1)).2.1, (pSq K (pSq K (pNt m) 5 11) 6 12 (j + 1)).2.2)) else pSq K (pSq K (pNt m) 5 11) 6 12 (j + 1))
    else pCm K N j
def pAn (m : Nat) : Nat → Prs := pSq K (pNt K N m) 5 11
def pOr (m : Nat) : Nat → Prs := pSq K (pAn K N m) 6 12
end P
theorem pNt_s (K N : Nat → Nat) (m j : Nat) : pNt K N (m + 1) j = if K j = 7 then ((pNt K N m (j + 1)).1, (pNt K N m (j + 1)).2.1, (pNt K N m (j + 1)).2.2 ++ [(10, 0, 0)])
    else if K j = 14 then (if (pOr K N m (j + 1)).1 = true then (if K (pOr K N m (j + 1)).2.1 = 15 then (true, (pOr K N m (j + 1)).2.1 + 1, (pOr K N m (j + 1)).2.2) else (false, (pOr K N m (j + 1)).2.1, (pOr K N m (j + 1)).2.2)) else pOr K N m (j + 1))
    else pCm K N j := rfl
/-- what the tokens are: kinds, numbers, the places behind them; c is the end -/
def tkW (K N E : Nat → Nat) (c : Nat) : Prop := K c = 0 ∧ E c ≤ 160 ∧ (∀ j, E j ≤ E (j + 1)) ∧ (∀ j, K j = 6 → E j + 2 ≤ E (j + 1)) ∧ (∀ j, K j = 5 ∨ K j = 7 → E j + 3 ≤ E (j + 1)) ∧ (∀ j, 8 ≤ K j → K j ≤ 11 → E j + 4 ≤ E (j + 1)) ∧ (∀ j, K j ≠ 0 → E j + 1 ≤ E (j + 1)) ∧ ∀ j, K j = 2 → N j < 1000
def okSt (s : Sp3) : Prop := s = (10, 0, 0) ∨ s = (11, 0, 0) ∨ s = (12, 0, 0) ∨ ∃ v m : Nat, v < 4 ∧ m < 1000 ∧ (s = (v + 5, 60, m) ∨ s = (v + 5, 61, m))
def okP (E : Nat → Nat) (c j : Nat) (r : Prs) : Prop := j ≤ r.2.1 ∧ r.2.1 ≤ c ∧ (r.1 = true → 3 * r.2.2.length + 3 + E j ≤ E r.2.1) ∧ 3 * r.2.2.length + E j ≤ E r.2.1 ∧ ∀ s ∈ r.2.2, okSt s
theorem pCm_ok {K N E : Nat → Nat} {c j : Nat} (W : tkW K N E c) (hj : j ≤ c) : okP E c j (pCm K N j) := by
  obtain ⟨w0, w1, w2, w3, w4, w5, w6, w7⟩ := W
  have nx : ∀ j, j ≤ c → K j ≠ 0 → j + 1 ≤ c := fun j h1 h2 => by
    by_cases e : j = c
    · rw [e] at h2; exact absurd w0 h2
    · omega
  unfold pCm
  by_cases a : 8 ≤ K j ∧ K j ≤ 11
  · rw [if_pos a]
    have h1 := nx j hj (by omega)
    have e1 := w5 j a.1 a.2
    by_cases b : K (j + 1) = 12 ∨ K (j + 1) = 13
    · rw [if_pos b]
      have h2 := nx (j + 1) h1 (by omega)
      have e2 : E (j + 1) + 1 ≤ E (j + 2) := w6 (j + 1) (by omega)
      by_cases e : K (j + 2) = 2
      · rw [if_pos e]
        have h3 := nx (j + 2) h2 (by omega)
        have e3 : E (j + 2) + 1 ≤ E (j + 3) := w6 (j + 2) (by omega)
        refine ⟨by show j ≤ j + 3; omega, h3, fun _ => ?_, ?_, fun s hs => ?_⟩
        · show 3 * 1 + 3 + E j ≤ E (j + 3); omega
        · show 3 * 1 + E j ≤ E (j + 3); omega
        · rw [List.mem_singleton.mp hs]
          refine Or.inr (Or.inr (Or.inr ⟨K j - 8, N (j + 2), by omega, w7 _ e, ?_⟩))
          rw [show K j - 8 + 5 = K j - 3 by omega]
          by_cases q : K (j + 1) = 12
          · rw [if_pos q]; exact Or.inl rfl
          · rw [if_neg q]; exact Or.inr rfl
      · rw [if_neg e]
        exact ⟨by show j ≤ j + 2; omega, h2, fun q => (by cases q), by show 3 * 0 + E j ≤ E (j + 2); omega, fun s hs => absurd hs List.not_mem_nil⟩
    · rw [if_neg b]
      exact ⟨by show j ≤ j + 1; omega, h1, fun q => (by cases q), by show 3 * 0 + E j ≤ E (j + 1); omega, fun s hs => absurd hs List.not_mem_nil⟩
  · rw [if_neg a]
    exact ⟨Nat.le_refl _, hj, fun q => (by cases q), by show 3 * 0 + E j ≤ E j; omega, fun s hs => absurd hs List.not_mem_nil⟩
theorem pBn_ok {K N E : Nat → Nat} {c : Nat} {P : Nat → Prs} {op code : Nat} (W : tkW K N E c) (ho : op = 5 ∨ op = 6) (hc : code = 11 ∨ code = 12) (hP : ∀ j, j ≤ c → okP E c j (P j)) {j0 : Nat} : ∀ f j l, j0 ≤ j → j ≤ c → 3 * l.length + 3 + E j0 ≤ E j → (∀ s ∈ l, okSt s) → okP E c j0 (pBn K P op code f j l) := by
  obtain ⟨w0, w1, w2, w3, w4, w5, w6, w7⟩ := W
  have nx : ∀ j, j ≤ c → K j ≠ 0 → j + 1 ≤ c := fun j h1 h2 => by
    by_cases e : j = c
    · rw [e] at h2; exact absurd w0 h2
    · omega
  have oc : okSt (code, 0, 0) := by rcases hc with rfl | rfl; exact Or.inr (Or.inl rfl); exact Or.inr (Or.inr (Or.inl rfl))
  intro f
  induction f with
  | zero => intro j l h0 hj hl hs; rw [pBn]; exact ⟨h0, hj, fun _ => hl, by show 3 * l.length + E j0 ≤ E j; omega, hs⟩
  | succ f ih =>
    intro j l h0 hj hl hs
    rw [pBn]
    by_cases e : K j = op
    · rw [if_pos e]
      have h1 := nx j hj (by omega)
      have e1 : E j + 2 ≤ E (j + 1) := by
        rcases ho with q | q
        · have := w4 j (by omega); omega
        · exact w3 j (by omega)
      obtain ⟨p1, p2, p3, p4, p5⟩ := hP (j + 1) h1
      have hs' : ∀ s ∈ l ++ (P (j + 1)).2.2 ++ [(code, 0, 0)], okSt s := by
        intro s hs2
        rcases List.mem_append.mp hs2 with q | q
        · rcases List.mem_append.mp q with q | q
          · exact hs s q
          · exact p5 s q
        · rw [List.mem_singleton.mp q]; exact oc
      have ll : (l ++ (P (j + 1)).2.2 ++ [(code, 0, 0)]).length = l.length + (P (j + 1)).2.2.length + 1 := by simp only [List.length_append, List.length_singleton]
      cases z : (P (j + 1)).1
      · rw [if_neg (by simp)]
        exact ⟨by show j0 ≤ (P (j + 1)).2.1; omega, p2, fun q => (by cases q), by show 3 * (l ++ (P (j + 1)).2.2 ++ [(code, 0, 0)]).length + E j0 ≤ E (P (j + 1)).2.1; rw [ll]; omega, hs'⟩
      · rw [if_pos rfl]
        have p3 := p3 z
        exact ih _ _ (by omega) p2 (by rw [ll]; omega) hs'
    · rw [if_neg e]
      exact ⟨h0, hj, fun _ => hl, by show 3 * l.length + E j0 ≤ E j; omega, hs⟩
theorem pSq_ok {K N E : Nat → Nat} {c : Nat} {P : Nat → Prs} {op code : Nat} (W : tkW K N E c) (ho : op = 5 ∨ op = 6) (hc : code = 11 ∨ code = 12) (hP : ∀ j, j ≤ c → okP E c j (P j)) : ∀ j, j ≤ c → okP E c j (pSq K P op code j) := by
  intro j hj
  have p := hP j hj
  unfold pSq
  cases z : (P j).1
  · rw [if_neg (by simp)]; exact p
  · rw [if_pos rfl]
    obtain ⟨p1, p2, p3, p4, p5⟩ := p
    exact pBn_ok W ho hc hP 160 _ _ p1 p2 (p3 z) p5
theorem pNt_ok {K N E : Nat → Nat} {c : Nat} (W : tkW K N E c) : ∀ m j, j ≤ c → okP E c j (pNt K N m j) := by
  have W' := W
  obtain ⟨w0, w1, w2, w3, w4, w5, w6, w7⟩ := W'
  have nx : ∀ j, j ≤ c → K j ≠ 0 → j + 1 ≤ c := fun j h1 h2 => by
    by_cases e : j = c
    · rw [e] at h2; exact absurd w0 h2
    · omega
  intro m
  induction m with
  | zero => intro j hj; exact ⟨Nat.le_refl _, hj, fun q => (by cases q), by show 3 * 0 + E j ≤ E j; omega, fun s hs => absurd hs List.not_mem_nil⟩
  | succ m ih =>
    intro j hj
    have hO : ∀ j, j ≤ c → okP E c j (pOr K N m j) := pSq_ok W (Or.inr rfl) (Or.inr rfl) (pSq_ok W (Or.inl rfl) (Or.inl rfl) ih)
    rw [pNt_s]
    by_cases e : K j = 7
    · rw [if_pos e]
      have h1 := nx j hj (by omega)
      have e1 := w4 j (Or.inr e)
      obtain ⟨p1, p2, p3, p4, p5⟩ := ih (j + 1) h1
      have ll : ((pNt K N m (j + 1)).2.2 ++ [((10, 0, 0) : Sp3)]).length = (pNt K N m (j + 1)).2.2.length + 1 := by simp only [List.length_append, List.length_singleton]
      refine ⟨by show j ≤ (pNt K N m (j + 1)).2.1; omega, p2, fun q => ?_, ?_, fun s hs => ?_⟩
      · have := p3 q
        show 3 * ((pNt K N m (j + 1)).2.2 ++ [((10, 0, 0) : Sp3)]).length + 3 + E j ≤ E (pNt K N m (j + 1)).2.1
        rw [ll]; omega
      · show 3 * ((pNt K N m (j + 1)).2.2 ++ [((10, 0, 0) : Sp3)]).length + E j ≤ E (pNt K N m (j + 1)).2.1
        rw [ll]; omega
      · rcases List.mem_append.mp hs with q | q
        · exact p5 s q
        · rw [List.mem_singleton.mp q]; exact Or.inl rfl
    · rw [if_neg e]
      by_cases e2 : K j = 14
      · rw [if_pos e2]
        have h1 := nx j hj (by omega)
        have e1 := w6 j (by omega)
        obtain ⟨p1, p2, p3, p4, p5⟩ := hO (j + 1) h1
        cases z : (pOr K N m (j + 1)).1
        · rw [if_neg (by simp)]
          exact ⟨by omega, p2, fun q => (by rw [z] at q; cases q), by omega, p5⟩
        · rw [if_pos rfl]
          have p3 := p3 z
          by_cases e3 : K (pOr K N m (j + 1)).2.1 = 15
          · rw [if_pos e3]
            have h2 := nx _ p2 (by omega)
            have e4 := w6 (pOr K N m (j + 1)).2.1 (by omega)
            exact ⟨by show j ≤ (pOr K N m (j + 1)).2.1 + 1; omega, h2, fun _ => by show 3 * (pOr K N m (j + 1)).2.2.length + 3 + E j ≤ E ((pOr K N m (j + 1)).2.1 + 1); omega, by show 3 * (pOr K N m (j + 1)).2.2.length + E j ≤ E ((pOr K N m (j + 1)).2.1 + 1); omega, p5⟩
          · rw [if_neg e3]
            exact ⟨by show j ≤ (pOr K N m (j + 1)).2.1; omega, p2, fun q => (by cases q), by show 3 * (pOr K N m (j + 1)).2.2.length + E j ≤ E (pOr K N m (j + 1)).2.1; omega, p5⟩
      · rw [if_neg e2]; exact pCm_ok W hj
theorem pAn_ok {K N E : Nat → Nat} {c : Nat} (W : tkW K N E c) (m : Nat) : ∀ j, j ≤ c → okP E c j (pAn K N m j) := pSq_ok W (Or.inl rfl) (Or.inl rfl) (pNt_ok W m)
theorem pOr_ok {K N E : Nat → Nat} {c : Nat} (W : tkW K N E c) (m : Nat) : ∀ j, j ≤ c → okP E c j (pOr K N m j) := pSq_ok W (Or.inr rfl) (Or.inr rfl) (pAn_ok W m)
