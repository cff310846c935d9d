/-! THE PLAN, 1: sets as bits; leaving out rows that can't be better -/
def bt (S i : Nat) : Bool := Nat.testBit S i
def adB (S i : Nat) : Nat := S ||| 2 ^ i
theorem bt_ad (S i j : Nat) : bt (adB S i) j = (bt S j || decide (j = i)) := by
  unfold bt adB
  rw [Nat.testBit_or, Nat.testBit_two_pow]
  by_cases e : i = j
  · subst e; simp
  · have e2 : ¬ j = i := fun w => e w.symm
    simp [e, e2]
theorem bt_0 (j : Nat) : bt 0 j = false := by unfold bt; exact Nat.zero_testBit j
/-- how many of the first n -/
def cdB (S : Nat) : Nat → Nat
  | 0 => 0
  | n + 1 => cdB S n + (if bt S n then 1 else 0)
/-- the worth of the first n that are in it -/
def wtB (w : Nat → Nat) (S : Nat) : Nat → Nat
  | 0 => 0
  | n + 1 => wtB w S n + (if bt S n then w n else 0)
theorem cdB_ad {S i : Nat} (h : bt S i = false) : ∀ n, cdB (adB S i) n = cdB S n + (if i < n then 1 else 0) := by
  intro n
  induction n with
  | zero => rfl
  | succ n ih =>
    rw [cdB, cdB, ih, bt_ad]
    by_cases e : n = i
    · subst e
      simp [h]
    · have q : (i < n + 1) = (i < n) := propext ⟨fun w => by omega, fun w => by omega⟩
      simp only [e, decide_false, Bool.or_false, q]; omega
theorem wtB_ad {w : Nat → Nat} {S i : Nat} (h : bt S i = false) : ∀ n, wtB w (adB S i) n = wtB w S n + (if i < n then w i else 0) := by
  intro n
  induction n with
  | zero => rfl
  | succ n ih =>
    rw [wtB, wtB, ih, bt_ad]
    by_cases e : n = i
    · subst e
      simp [h]
    · have q : (i < n + 1) = (i < n) := propext ⟨fun w => by omega, fun w => by omega⟩
      simp only [e, decide_false, Bool.or_false, q]; omega
theorem cdB_le (S : Nat) : ∀ n, cdB S n ≤ n := by
  intro n
  induction n with
  | zero => exact Nat.le_refl _
  | succ n ih => rw [cdB]; split <;> omega
theorem cdB_full {S : Nat} : ∀ n, cdB S n = n → ∀ i, i < n → bt S i = true := by
  intro n
  induction n with
  | zero => intro _ i hi; omega
  | succ n ih =>
    intro h i hi
    rw [cdB] at h
    have := cdB_le S n
    by_cases e : bt S n = true
    · rw [if_pos e] at h
      by_cases q : i = n
      · rw [q]; exact e
      · exact ih (by omega) i (by omega)
    · rw [if_neg e] at h; omega
/-- the row's stations are the set's -/
def rpB (r : List (Nat × Nat)) (S : Nat) : Prop := ∀ j, bt S j = r.any (fun q => decide (q.1 = j))
theorem rpB_0 : rpB [] 0 := fun j => by rw [bt_0]; rfl
theorem rpB_ad {r : List (Nat × Nat)} {S i hh : Nat} (h : rpB r S) : rpB (r ++ [(i, hh)]) (adB S i) := by
  intro j
  rw [bt_ad, h j, List.any_append]
  simp only [List.any_cons, List.any_nil, Bool.or_false]
  congr 1
  by_cases e : j = i
  · subst e; simp
  · have e2 : ¬ i = j := fun w => e w.symm
    simp [e, e2]
/-- whether a station may be next behind a set -/
def nxS (P : PI) (S last e i : Nat) : Option Nat :=
  if bt S i = false ∧ ∀ q, q < 8 → bt S q = true → P.2.2.1 i q = false then P.2.2.2.2.2 i (e + P.2.2.2.2.1 last i) else none
theorem nxt_S {P : PI} {r : List (Nat × Nat)} {S last e i : Nat} (h : rpB r S) (h8 : ∀ q ∈ r, q.1 < 8) : nxt P r last e i = nxS P S last e i := by
  unfold nxt nxS
  by_cases c : bt S i = false ∧ ∀ q, q < 8 → bt S q = true → P.2.2.1 i q = false
  · rw [if_pos c, if_pos]
    rw [List.all_eq_true]
    intro q hq
    have b1 : bt S q.1 = true := by rw [h q.1, List.any_eq_true]; exact ⟨q, hq, by simp⟩
    have b2 := c.2 q.1 (h8 q hq) b1
    have b3 : q.1 ≠ i := fun w => by rw [w, c.1] at b1; cases b1
    simp [b2, b3]
  · rw [if_neg c, if_neg]
    intro a
    rw [List.all_eq_true] at a
    refine c ⟨?_, fun q hq hb => ?_⟩
    · rw [h i, List.any_eq_false]
      intro q hq
      have := a q hq
      simp only [Bool.and_eq_true, decide_eq_true_eq] at this
      simp [this.1]
    · rw [h q, List.any_eq_true] at hb
      obtain ⟨x, hx, hx2⟩ := hb
      have := a x hx
      simp only [Bool.and_eq_true, decide_eq_true_eq, Bool.not_eq_true'] at this
      rw [← of_decide_eq_true hx2]; exact this.2
/-- a later coming gives a later hour -/
def mnP (P : PI) : Prop := ∀ i c c' h, c' ≤ c → P.2.2.2.2.2 i c = some h → ∃ h', h' ≤ h ∧ P.2.2.2.2.2 i c' = some h'
def btr (b : Bst) (w e : Nat) : Prop := b.1 < w ∨ b.1 = w ∧ e < b.2.1
theorem bsU_p {b : Bst} {w e : Nat} {r : List (Nat × Nat)} (h : btr b w e) : bsU b w e r = (w, e, r) := if_pos h
theorem bsU_n {b : Bst} {w e : Nat} {r : List (Nat × Nat)} (h : ¬ btr b w e) : bsU b w e r = b := if_neg h
/-- at least as good -/
def gte (b' b : Bst) : Prop := ∀ w e, btr b' w e → btr b w e
theorem gte_rf (b : Bst) : gte b b := fun _ _ h => h
theorem gte_tr {a b c : Bst} (h : gte a b) (h2 : gte b c) : gte a c := fun w e q => h2 w e (h w e q)
theorem gte_U (b : Bst) (w e : Nat) (r : List (Nat × Nat)) : gte (bsU b w e r) b ∧ ¬ btr (bsU b w e r) w e := by
  by_cases c : btr b w e
  · rw [bsU_p c]
    refine ⟨fun w' e' q => ?_, ?_⟩
    · unfold btr at c q ⊢; simp only at q; omega
    · unfold btr; simp only; omega
  · rw [bsU_n c]; exact ⟨gte_rf b, c⟩
/-- nothing better lies behind a set -/
def NBs (P : PI) : Nat → Nat → Nat → Nat → Nat → Bst → Prop
  | 0, _, _, _, _, _ => True
  | f + 1, S, last, e, w, b => ∀ i, i < P.1 → ∀ h, nxS P S last e i = some h → ¬ btr b (w + P.2.1 i) (h + P.2.2.2.1 i) ∧ NBs P f (adB S i) i (h + P.2.2.2.1 i) (w + P.2.1 i) b
theorem NBs_g {P : PI} {b b' : Bst} (g : gte b' b) : ∀ f S last e w, NBs P f S last e w b → NBs P f S last e w b' := by
  intro f
  induction f with
  | zero => intro _ _ _ _ _; trivial
  | succ f ih =>
    intro S last e w H i hi h hh
    obtain ⟨q1, q2⟩ := H i hi h hh
    exact ⟨fun c => q1 (g _ _ c), ih _ _ _ _ q2⟩
theorem nxS_m {P : PI} (m : mnP P) {S last e e' i h : Nat} (he : e' ≤ e) (hh : nxS P S last e i = some h) : ∃ h', h' ≤ h ∧ nxS P S last e' i = some h' := by
  unfold nxS at hh ⊢
  by_cases c : bt S i = false ∧ ∀ q, q < 8 → bt S q = true → P.2.2.1 i q = false
  · rw [if_pos c] at hh ⊢
    exact m i _ _ h (by omega) hh
  · rw [if_neg c] at hh; cases hh
theorem NBs_e {P : PI} (m : mnP P) {b : Bst} : ∀ f S last e e' w, e' ≤ e → NBs P f S last e' w b → NBs P f S last e w b := by
  intro f
  induction f with
  | zero => intro _ _ _ _ _ _ _; trivial
  | succ f ih =>
    intro S last e e' w he H i hi h hh
    obtain ⟨h', q0, q1⟩ := nxS_m m he hh
    obtain ⟨q2, q3⟩ := H i hi h' q1
    refine ⟨fun c => q2 ?_, ih _ _ _ _ _ (by omega) q3⟩
    unfold btr at c ⊢; omega
/-- the step of the full search at one station -/
def bfS (P : PI) (n : Nat) (r : List (Nat × Nat)) (last e w : Nat) (b : Bst) (i : Nat) : Bst := match nxt P r last e i with
  | none => b
  | some hh => bfR P n (r ++ [(i, hh)]) i (hh + P.2.2.2.1 i) (w + P.2.1 i) (bsU b (w + P.2.1 i) (hh + P.2.2.2.1 i) (r ++ [(i, hh)]))
theorem bfR_s (P : PI) (n : Nat) (r : List (Nat × Nat)) (last e w : Nat) (b : Bst) : bfR P (n + 1) r last e w b = (List.range P.1).foldl (bfS P n r last e w) b := rfl
/-- the fold from i on -/
def fdF {α : Type} (f : α → Nat → α) : Nat → Nat → α → α
  | _, 0, a => a
  | i, m + 1, a => fdF f (i + 1) m (f a i)
theorem fdF_range {α : Type} (f : α → Nat → α) (n : Nat) (a : α) : (List.range n).foldl f a = fdF f 0 n a := by
  have : ∀ m i a, (List.range' i m).foldl f a = fdF f i m a := by
    intro m
    induction m with
    | zero => intro i a; rfl
    | succ m ih => intro i a; rw [List.range'_succ, List.foldl_cons, ih]; rfl
  rw [List.range_eq_range', this]
theorem bfR_F (P : PI) (n : Nat) (r : List (Nat × Nat)) (last e w : Nat) (b : Bst) : bfR P (n + 1) r last e w b = fdF (bfS P n r last e w) 0 P.1 b := by
  rw [bfR_s, fdF_range]
theorem bfR_0 (P : PI) (r : List (Nat × Nat)) (last e w : Nat) (b : Bst) : bfR P 0 r last e w b = b := rfl
/-- what the full search leaves: nothing better behind -/
theorem bfR_nb {P : PI} (hn : P.1 ≤ 8) : ∀ f r S last e w b, rpB r S → (∀ q ∈ r, q.1 < 8) → gte (bfR P f r last e w b) b ∧ NBs P f S last e w (bfR P f r last e w b) := by
  intro f
  induction f with
  | zero => intro r S last e w b _ _; rw [bfR_0]; exact ⟨gte_rf b, trivial⟩
  | succ f ih =>
    intro r S last e w b hr h8
    rw [bfR_F]
    have K : ∀ m i b, i + m = P.1 → gte (fdF (bfS P f r last e w) i m b) b ∧ ∀ j, i ≤ j → j < P.1 → ∀ h, nxS P S last e j = some h → ¬ btr (fdF (bfS P f r last e w) i m b) (w + P.2.1 j) (h + P.2.2.2.1 j) ∧ NBs P f (adB S j) j (h + P.2.2.2.1 j) (w + P.2.1 j) (fdF (bfS P f r last e w) i m b) := by
      intro m
      induction m with
      | zero => intro i b hi; exact ⟨gte_rf b, fun j h1 h2 => by omega⟩
      | succ m ihm =>
        intro i b hi
        rw [fdF]
        obtain ⟨k1, k2⟩ := ihm (i + 1) (bfS P f r last e w b i) (by omega)
        have st : gte (bfS P f r last e w b i) b ∧ ∀ h, nxS P S last e i = some h → ¬ btr (bfS P f r last e w b i) (w + P.2.1 i) (h + P.2.2.2.1 i) ∧ NBs P f (adB S i) i (h + P.2.2.2.1 i) (w + P.2.1 i) (bfS P f r last e w b i) := by
          unfold bfS
          rw [nxt_S hr h8]
          cases c : nxS P S last e i with
          | none => exact ⟨gte_rf b, fun h q => by cases q⟩
          | some hh =>
            obtain ⟨g1, g2⟩ := ih (r ++ [(i, hh)]) (adB S i) i (hh + P.2.2.2.1 i) (w + P.2.1 i) (bsU b (w + P.2.1 i) (hh + P.2.2.2.1 i) (r ++ [(i, hh)])) (rpB_ad hr) (fun q hq => by
              rcases List.mem_append.mp hq with q1 | q1
              · exact h8 q q1
              · simp only [List.mem_singleton] at q1; rw [q1]; show i < 8; omega)
            obtain ⟨u1, u2⟩ := gte_U b (w + P.2.1 i) (hh + P.2.2.2.1 i) (r ++ [(i, hh)])
            refine ⟨gte_tr g1 u1, fun h q => ?_⟩
            cases q
            exact ⟨fun c => u2 (g1 _ _ c), g2⟩
        refine ⟨gte_tr k1 st.1, fun j h1 h2 h q => ?_⟩
        by_cases e2 : j = i
        · subst e2
          obtain ⟨s1, s2⟩ := st.2 h q
          exact ⟨fun c => s1 (k1 _ _ c), NBs_g k1 _ _ _ _ _ s2⟩
        · exact k2 j (by omega) h2 h q
    obtain ⟨k1, k2⟩ := K P.1 0 b (by omega)
    exact ⟨k1, fun i hi h hh => k2 i (by omega) hi h hh⟩
/-- where nothing better lies behind, the full search changes nothing -/
theorem bfR_no {P : PI} (hn : P.1 ≤ 8) : ∀ f r S last e w b, rpB r S → (∀ q ∈ r, q.1 < 8) → NBs P f S last e w b → bfR P f r last e w b = b := by
  intro f
  induction f with
  | zero => intro r S last e w b _ _ _; rfl
  | succ f ih =>
    intro r S last e w b hr h8 H
    rw [bfR_F]
    have K : ∀ m i, i + m = P.1 → fdF (bfS P f r last e w) i m b = b := by
      intro m
      induction m with
      | zero => intro i hi; rfl
      | succ m ihm =>
        intro i hi
        rw [fdF]
        have st : bfS P f r last e w b i = b := by
          unfold bfS
          rw [nxt_S hr h8]
          cases c : nxS P S last e i with
          | none => rfl
          | some hh =>
            obtain ⟨q1, q2⟩ := H i (by omega) hh c
            simp only [bsU_n q1]
            exact ih _ _ _ _ _ _ (rpB_ad hr) (fun q hq => by
              rcases List.mem_append.mp hq with q1 | q1
              · exact h8 q q1
              · simp only [List.mem_singleton] at q1; rw [q1]; show i < 8; omega) q2
        rw [st]
        exact ihm (i + 1) (by omega)
    exact K P.1 0 (by omega)
