/-! LINES, 1: the tape's tokens -/
/-- bytes of a tape, 300 behind them -/
def TB (n : Nat) (b : Nat → Nat) : Prop := n ≤ 160 ∧ (∀ p, p < n → b p ≤ 255) ∧ ∀ p, n ≤ p → b p = 300
def isDg (x : Nat) : Bool := decide (48 ≤ x) && decide (x ≤ 57)
def isLt (x : Nat) : Bool := decide (97 ≤ x) && decide (x ≤ 122)
theorem isDg_t {x : Nat} (h : isDg x = true) : 48 ≤ x ∧ x ≤ 57 := by unfold isDg at h; simp only [Bool.and_eq_true, decide_eq_true_eq] at h; exact h
theorem isLt_t {x : Nat} (h : isLt x = true) : 97 ≤ x ∧ x ≤ 122 := by unfold isLt at h; simp only [Bool.and_eq_true, decide_eq_true_eq] at h; exact h
/-- behind a run -/
def rnE (f : Nat → Bool) (b : Nat → Nat) : Nat → Nat → Nat
  | 0, p => p
  | m + 1, p => if f (b p) then rnE f b m (p + 1) else p
theorem rnE_s {f : Nat → Bool} {b : Nat → Nat} : ∀ m p, p ≤ rnE f b m p ∧ rnE f b m p ≤ p + m ∧ (∀ i, p ≤ i → i < rnE f b m p → f (b i) = true) ∧ (rnE f b m p < p + m → f (b (rnE f b m p)) = false) := by
  intro m
  induction m with
  | zero => intro p; rw [rnE]; exact ⟨Nat.le_refl _, Nat.le_refl _, fun i h1 h2 => by omega, fun h => by omega⟩
  | succ m ih =>
    intro p
    rw [rnE]
    cases c : f (b p)
    · rw [if_neg (by simp)]
      exact ⟨Nat.le_refl _, by omega, fun i h1 h2 => by omega, fun _ => c⟩
    · rw [if_pos rfl]
      obtain ⟨a1, a2, a3, a4⟩ := ih (p + 1)
      refine ⟨by omega, by omega, fun i h1 h2 => ?_, fun h => a4 (by omega)⟩
      by_cases e : i = p
      · rw [e]; exact c
      · exact a3 i (by omega) h2
/-- the number of m digits -/
def dgN (b : Nat → Nat) (p : Nat) : Nat → Nat
  | 0 => 0
  | m + 1 => 10 * dgN b p m + (b (p + m) - 48)
/-- the number of m letters -/
def ltN (b : Nat → Nat) (p : Nat) : Nat → Nat
  | 0 => 0
  | m + 1 => 32 * ltN b p m + (b (p + m) - 96)
theorem ltN_inj {b c : Nat → Nat} {p q : Nat} : ∀ m k, (∀ i, i < m → isLt (b (p + i)) = true) → (∀ i, i < k → isLt (c (q + i)) = true) → ltN b p m = ltN c q k → m = k ∧ ∀ i, i < m → b (p + i) = c (q + i) := by
  intro m
  induction m with
  | zero =>
    intro k _ hc h
    cases k with
    | zero => exact ⟨rfl, fun i hi => by omega⟩
    | succ k =>
      have := isLt_t (hc k (by omega))
      rw [ltN, ltN] at h
      omega
  | succ m ih =>
    intro k hb hc h
    have b1 := isLt_t (hb m (by omega))
    cases k with
    | zero => rw [ltN, ltN] at h; omega
    | succ k =>
      have c1 := isLt_t (hc k (by omega))
      rw [ltN, ltN] at h
      obtain ⟨e, e2⟩ := ih k (fun i hi => hb i (by omega)) (fun i hi => hc i (by omega)) (by omega)
      refine ⟨by omega, fun i hi => ?_⟩
      by_cases q : i = m
      · subst q; subst e; omega
      · exact e2 i (by omega)
theorem ltN_eq {b c : Nat → Nat} {p q : Nat} : ∀ m, (∀ i, i < m → b (p + i) = c (q + i)) → ltN b p m = ltN c q m := by
  intro m
  induction m with
  | zero => intro _; rfl
  | succ m ih => intro h; rw [ltN, ltN, ih (fun i hi => h i (by omega)), h m (by omega)]
theorem ltN_lo {b : Nat → Nat} {p : Nat} : ∀ m, (∀ i, i < m + 1 → isLt (b (p + i)) = true) → 32 ^ m ≤ ltN b p (m + 1) := by
  intro m
  induction m with
  | zero =>
    intro h
    have h1 := isLt_t (h 0 (by omega))
    rw [ltN, ltN, Nat.pow_zero]; omega
  | succ m ih =>
    intro h
    have h2 := ih (fun i hi => h i (by omega))
    rw [ltN, Nat.pow_succ]; omega
theorem ltN_hi {b : Nat → Nat} {p : Nat} : ∀ m, (∀ i, i < m → isLt (b (p + i)) = true) → ltN b p m < 32 ^ m := by
  intro m
  induction m with
  | zero => intro _; rw [ltN]; decide
  | succ m ih =>
    intro h
    have h1 := isLt_t (h m (by omega))
    have h2 := ih (fun i hi => h i (by omega))
    rw [ltN, Nat.pow_succ]; omega
/-- the numbers of the nine words -/
def wdL : List Nat := [20 * 32768 + 1 * 1024 + 11 * 32 + 5, 23 * 32768 + 8 * 1024 + 5 * 32 + 14, 1 * 1024 + 14 * 32 + 4, 15 * 32 + 18, 14 * 1024 + 15 * 32 + 20, ((((((19 * 32 + 20) * 32 + 1) * 32 + 20) * 32 + 9) * 32 + 15) * 32 + 14), ((((4 * 32 + 5) * 32 + 16) * 32 + 20) * 32 + 8), (((12 * 32 + 5) * 32 + 6) * 32 + 20), (((8 * 32 + 15) * 32 + 21) * 32 + 18)]
/-- which kind of token a word is -/
def kyW (w : Nat) : Nat := if w = wdL.getD 0 0 then 3 else if w = wdL.getD 1 0 then 4 else if w = wdL.getD 2 0 then 5 else if w = wdL.getD 3 0 then 6 else if w = wdL.getD 4 0 then 7 else if w = wdL.getD 5 0 then 8 else if w = wdL.getD 6 0 then 9 else if w = wdL.getD 7 0 then 10 else if w = wdL.getD 8 0 then 11 else 1
def sgW (x : Nat) : Nat := if x = 60 then 12 else if x = 61 then 13 else if x = 40 then 14 else if x = 41 then 15 else if x = 59 then 16 else 1
theorem kyW_hi {w : Nat} (h : 32 ^ 7 ≤ w) : kyW w = 1 := by
  unfold kyW wdL
  simp only [List.getD_cons_zero, List.getD_cons_succ]
  repeat' (first | rw [if_neg (by omega)] | rfl)
/-- a token: kind, number, the place behind -/
abbrev Tkn : Type := Nat × Nat × Nat
/-- the token at a place that is no blank -/
def tkZ (n : Nat) (b : Nat → Nat) (p : Nat) : Tkn :=
  if n ≤ p then (0, 0, p) else if isDg (b p) then (if 3 < rnE isDg b (n - p) p - p then 1 else 2, dgN b p (rnE isDg b (n - p) p - p), rnE isDg b (n - p) p)
  else if isLt (b p) then (kyW (ltN b p (rnE isLt b (n - p) p - p)), 0, rnE isLt b (n - p) p) else (sgW (b p), 0, p + 1)
def isBl (x : Nat) : Bool := decide (x = 32)
/-- the next place that is no blank -/
def skB (n : Nat) (b : Nat → Nat) (p : Nat) : Nat := rnE isBl b (n - p) p
/-- the places behind the first j tokens -/
def psT (n : Nat) (b : Nat → Nat) : Nat → Nat
  | 0 => 0
  | j + 1 => (tkZ n b (skB n b (psT n b j))).2.2
/-- where token j begins; its kind; its number -/
def spT (n : Nat) (b : Nat → Nat) (j : Nat) : Nat := skB n b (psT n b j)
def kdT (n : Nat) (b : Nat → Nat) (j : Nat) : Nat := (tkZ n b (spT n b j)).1
def nuT (n : Nat) (b : Nat → Nat) (j : Nat) : Nat := (tkZ n b (spT n b j)).2.1
theorem psT_s (n : Nat) (b : Nat → Nat) (j : Nat) : psT n b (j + 1) = (tkZ n b (spT n b j)).2.2 := rfl
theorem skB_r {n : Nat} {b : Nat → Nat} {p : Nat} (h : p ≤ n) : p ≤ skB n b p ∧ skB n b p ≤ n := by
  have := rnE_s (f := isBl) (b := b) (n - p) p
  exact ⟨this.1, by have := this.2.1; unfold skB; omega⟩
theorem tkZ_r {n : Nat} {b : Nat → Nat} {p : Nat} (h : p ≤ n) : p ≤ (tkZ n b p).2.2 ∧ (tkZ n b p).2.2 ≤ n ∧ (p < n → p < (tkZ n b p).2.2) := by
  unfold tkZ
  by_cases e : n ≤ p
  · rw [if_pos e]; exact ⟨Nat.le_refl _, by show p ≤ n; omega, fun w => by omega⟩
  rw [if_neg e]
  cases c : isDg (b p)
  · rw [if_neg (by simp)]
    cases c2 : isLt (b p)
    · rw [if_neg (by simp)]; exact ⟨by show p ≤ p + 1; omega, by show p + 1 ≤ n; omega, fun _ => by show p < p + 1; omega⟩
    · rw [if_pos rfl]
      have := rnE_s (f := isLt) (b := b) (n - p) p
      have q : p < rnE isLt b (n - p) p := by
        obtain ⟨m, hm⟩ : ∃ m, n - p = m + 1 := ⟨n - p - 1, by omega⟩
        rw [hm, rnE, if_pos c2]
        have := (rnE_s (f := isLt) (b := b) m (p + 1)).1
        omega
      exact ⟨this.1, by show rnE isLt b (n - p) p ≤ n; omega, fun _ => q⟩
  · rw [if_pos rfl]
    have := rnE_s (f := isDg) (b := b) (n - p) p
    have q : p < rnE isDg b (n - p) p := by
      obtain ⟨m, hm⟩ : ∃ m, n - p = m + 1 := ⟨n - p - 1, by omega⟩
      rw [hm, rnE, if_pos c]
      have := (rnE_s (f := isDg) (b := b) m (p + 1)).1
      omega
    exact ⟨this.1, by show rnE isDg b (n - p) p ≤ n; omega, fun _ => q⟩
theorem psT_le (n : Nat) (b : Nat → Nat) : ∀ j, psT n b j ≤ n := by
  intro j
  induction j with
  | zero => exact Nat.zero_le _
  | succ j ih => exact (tkZ_r (skB_r ih).2).2.1
theorem spT_r (n : Nat) (b : Nat → Nat) (j : Nat) : psT n b j ≤ spT n b j ∧ spT n b j ≤ n := skB_r (psT_le n b j)
theorem psT_up (n : Nat) (b : Nat → Nat) (j : Nat) : spT n b j ≤ psT n b (j + 1) ∧ (spT n b j < n → spT n b j < psT n b (j + 1)) := by
  have := tkZ_r (b := b) (spT_r n b j).2
  exact ⟨this.1, this.2.2⟩
