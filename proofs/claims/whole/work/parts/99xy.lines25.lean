/-! LINES, 25: how many operands wait -/
def dwS (w : Nat) (s : Sp3) : Option Nat := if s.1 < 10 then (if w < 20 then some (w + 1) else none) else if s.1 = 10 then (if 1 ≤ w then some w else none) else (if 2 ≤ w then some (w - 1) else none)
def dwL : Nat → List Sp3 → Option Nat
  | w, [] => some w
  | w, s :: l => (dwS w s).bind (fun v => dwL v l)
theorem dwL_a : ∀ (l1 l2 : List Sp3) (w : Nat), dwL w (l1 ++ l2) = (dwL w l1).bind (fun v => dwL v l2) := by
  intro l1
  induction l1 with
  | nil => intro l2 w; rfl
  | cons s l ih =>
    intro l2 w
    rw [List.cons_append, dwL, dwL]
    cases dwS w s with
    | none => rfl
    | some v => exact ih l2 v
def gdB (P : Nat → Prs) (B : Nat) : Prop := ∀ j, (P j).1 = true → ∀ w, w ≤ B → dwL w (P j).2.2 = some (w + 1)
theorem dw_op {l l' : List Sp3} {w code : Nat} (h1 : dwL w l = some (w + 1)) (h2 : dwL (w + 1) l' = some (w + 2)) (hc : code = 11 ∨ code = 12) : dwL w (l ++ l' ++ [(code, 0, 0)]) = some (w + 1) := by
  rw [dwL_a, dwL_a, h1]
  show (dwL (w + 1) l').bind _ = _
  rw [h2]
  show (dwS (w + 2) (code, 0, 0)).bind _ = _
  have e : dwS (w + 2) (code, 0, 0) = some (w + 1) := by
    unfold dwS
    rw [if_neg (by show ¬ code < 10; omega), if_neg (by show ¬ code = 10; omega), if_pos (by omega)]
    rfl
  rw [e]; rfl
theorem pBn_g {K : Nat → Nat} {P : Nat → Prs} {op code B : Nat} (hc : code = 11 ∨ code = 12) (hP : gdB P B) : ∀ f j l, (∀ w, w + 1 ≤ B → dwL w l = some (w + 1)) → (pBn K P op code f j l).1 = true → ∀ w, w + 1 ≤ B → dwL w (pBn K P op code f j l).2.2 = some (w + 1) := by
  intro f
  induction f with
  | zero => intro j l hl _; rw [pBn]; exact hl
  | succ f ih =>
    intro j l hl
    rw [pBn]
    by_cases e : K j = op
    · rw [if_pos e]
      by_cases z : (P (j + 1)).1 = true
      · rw [if_pos z]
        exact ih _ _ (fun w hw => dw_op (hl w hw) (hP _ z (w + 1) hw) hc)
      · rw [if_neg z]; intro w; cases w
    · rw [if_neg e]; intro _; exact hl
theorem pSq_g {K : Nat → Nat} {P : Nat → Prs} {op code B : Nat} (hc : code = 11 ∨ code = 12) (hP : gdB P (B + 1)) : gdB (pSq K P op code) B := by
  intro j
  unfold pSq
  by_cases z : (P j).1 = true
  · rw [if_pos z]
    intro h w hw
    exact pBn_g hc hP 160 _ _ (fun w hw => hP j z w (by omega)) h w (by omega)
  · rw [if_neg z]; intro h; exact absurd h z
theorem pNt_g {K N : Nat → Nat} : ∀ m, m ≤ 8 → gdB (pNt K N m) (19 - 2 * m) := by
  intro m
  induction m with
  | zero => intro _ j h; cases h
  | succ m ih =>
    intro hm j
    have hN := ih (by omega)
    have hO : gdB (pOr K N m) (17 - 2 * m) := pSq_g (Or.inr rfl) (pSq_g (Or.inl rfl) (by rw [show 17 - 2 * m + 1 + 1 = 19 - 2 * m by omega]; exact hN))
    rw [pNt_s]
    by_cases e : K j = 7
    · rw [if_pos e]
      intro h w hw
      have := hN (j + 1) h w (by omega)
      show dwL w ((pNt K N m (j + 1)).2.2 ++ [(10, 0, 0)]) = _
      rw [dwL_a, this]
      show (dwS (w + 1) (10, 0, 0)).bind _ = _
      have e : dwS (w + 1) (10, 0, 0) = some (w + 1) := by
        unfold dwS
        rw [if_neg (by decide), if_pos rfl, if_pos (by omega)]
      rw [e]; rfl
    · rw [if_neg e]
      by_cases e2 : K j = 14
      · rw [if_pos e2]
        by_cases z : (pOr K N m (j + 1)).1 = true
        · rw [if_pos z]
          by_cases e3 : K (pOr K N m (j + 1)).2.1 = 15
          · rw [if_pos e3]; intro _ w hw; exact hO (j + 1) z w (by omega)
          · rw [if_neg e3]; intro w; cases w
        · rw [if_neg z]; intro h; exact absurd h z
      · rw [if_neg e2]
        unfold pCm
        by_cases a : 8 ≤ K j ∧ K j ≤ 11
        · rw [if_pos a]
          by_cases bb : K (j + 1) = 12 ∨ K (j + 1) = 13
          · rw [if_pos bb]
            by_cases c : K (j + 2) = 2
            · rw [if_pos c]
              intro _ w hw
              show (dwS w (K j - 3, _, _)).bind _ = _
              have e : ∀ x y, dwS w (K j - 3, x, y) = some (w + 1) := by
                intro x y
                unfold dwS
                rw [if_pos (by show K j - 3 < 10; omega), if_pos (by omega)]
              rw [e]; rfl
            · rw [if_neg c]; intro w; cases w
          · rw [if_neg bb]; intro w; cases w
        · rw [if_neg a]; intro w; cases w
theorem pLn_g {K N : Nat → Nat} (j : Nat) (h : (pLn K N j).1 = true) : K j = 3 ∧ K (j + 1) = 2 ∧ ((pLn K N j).2.2 = [] ∨ dwL 0 (pLn K N j).2.2 = some 1) := by
  have hO : gdB (pOr K N 6) 5 := pSq_g (Or.inr rfl) (pSq_g (Or.inl rfl) (pNt_g 6 (by decide)))
  revert h
  unfold pLn
  by_cases e1 : K j = 3
  · rw [if_pos e1]
    by_cases e2 : K (j + 1) = 2
    · rw [if_pos e2]
      by_cases e3 : K (j + 2) = 4
      · rw [if_pos e3]
        by_cases z : (pOr K N 6 (j + 3)).1 = true
        · rw [if_pos z]
          by_cases e4 : K (pOr K N 6 (j + 3)).2.1 = 16
          · rw [if_pos e4]; intro _; exact ⟨e1, e2, Or.inr (hO (j + 3) z 0 (by omega))⟩
          · rw [if_neg e4]; intro w; cases w
        · rw [if_neg z]; intro h; exact absurd h z
      · rw [if_neg e3]
        by_cases e4 : K (j + 2) = 16
        · rw [if_pos e4]; intro _; exact ⟨e1, e2, Or.inl rfl⟩
        · rw [if_neg e4]; intro w; cases w
    · rw [if_neg e2]; intro w; cases w
  · rw [if_neg e1]; intro w; cases w
theorem dep_cg {st st' : Nat → Int32} {a : Nat} : ∀ n, (∀ k, k < n → st (a + k) = st' (a + k)) → dep st a n = dep st' a n := by
  intro n
  induction n with
  | zero => intro _; rfl
  | succ n ih => intro h; rw [dep, dep, ih (fun k hk => h k (by omega)), h n (by omega)]
theorem stI_s {s : Sp3} (h : okSt s) : ((0 ≤ stI s) = (s.1 < 10)) ∧ (¬ s.1 < 10 → (stI s = -1) = (s.1 = 10)) := by
  rcases h with rfl | rfl | rfl | ⟨v, m, hv, hm, h⟩
  · exact ⟨propext ⟨fun w => absurd w (by decide), fun w => absurd w (by decide)⟩, fun _ => propext ⟨fun _ => rfl, fun _ => rfl⟩⟩
  · exact ⟨propext ⟨fun w => absurd w (by decide), fun w => absurd w (by decide)⟩, fun _ => propext ⟨fun w => absurd w (by decide), fun w => absurd w (by decide)⟩⟩
  · exact ⟨propext ⟨fun w => absurd w (by decide), fun w => absurd w (by decide)⟩, fun _ => propext ⟨fun w => absurd w (by decide), fun w => absurd w (by decide)⟩⟩
  · have e : s.1 = v + 5 := by rcases h with rfl | rfl <;> rfl
    have hm2 : s.2.2 = m := by rcases h with rfl | rfl <;> rfl
    refine ⟨propext ⟨fun _ => by omega, fun _ => ?_⟩, fun w => by omega⟩
    unfold stI
    rw [if_neg (by omega), if_neg (by omega), if_neg (by omega), i_le, ti_0, tn_i (by split <;> omega)]
    omega
theorem dep_dw {st : Nat → Int32} {a : Nat} {l : List Sp3} (hs : ∀ s ∈ l, okSt s) (h : ∀ k, k < l.length → st (a + k) = stI (l.getD k (0, 0, 0))) : dep st a l.length = dwL 0 l := by
  have : ∀ n, n ≤ l.length → dep st a n = dwL 0 (l.take n) := by
    intro n
    induction n with
    | zero => intro _; rfl
    | succ n ih =>
      intro hn
      have e : l[n]? = some l[n] := List.getElem?_eq_getElem (by omega)
      have eg : l.getD n (0, 0, 0) = l[n] := by rw [List.getD_eq_getElem?_getD, e]; rfl
      rw [dep, ih (by omega), h n (by omega), List.take_add_one, e, dwL_a, eg]
      congr 1
      funext w
      obtain ⟨q1, q2⟩ := stI_s (hs _ (List.getElem_mem (by omega : n < l.length)))
      show _ = (dwS w l[n]).bind _
      unfold dwS
      by_cases c : l[n].1 < 10
      · rw [if_pos c, if_pos (by rw [q1]; exact c)]
        by_cases d : w < 20
        · rw [if_pos d]; rfl
        · rw [if_neg d]; rfl
      · rw [if_neg c, if_neg (by rw [q1]; exact c)]
        by_cases d : l[n].1 = 10
        · rw [if_pos d, if_pos (by rw [q2 c]; exact d)]
          by_cases f : 1 ≤ w
          · rw [if_pos f]; rfl
          · rw [if_neg f]; rfl
        · rw [if_neg d, if_neg (by rw [q2 c]; exact d)]
          by_cases f : 2 ≤ w
          · rw [if_pos f]; rfl
          · rw [if_neg f]; rfl
  rw [this _ (Nat.le_refl _), List.take_length]
def stF (L : List Sp3) (k : Nat) : Int32 := stI (L.getD k (0, 0, 0))
def lnD (ts : List (Nat × Nat)) (L : List Sp3) (bad : Option Nat) : Prop := L.length = enT ts ts.length ∧ ∀ i, i < ts.length → enT ts i ≤ enT ts (i + 1) ∧ enT ts (i + 1) ≤ L.length ∧ (enT ts (i + 1) = enT ts i ∨ dep (stF L) (enT ts i) (enT ts (i + 1) - enT ts i) = some 1) ∧ (bad = none → 1 ≤ (ts.getD i (0, 0)).1 ∧ (ts.getD i (0, 0)).1 ≤ 10)
theorem stF_l {L l : List Sp3} {k : Nat} (h : k < L.length) : stF (L ++ l) k = stF L k := by
  unfold stF
  rw [List.getD_eq_getElem?_getD, List.getD_eq_getElem?_getD, List.getElem?_append_left h]
theorem stF_r {L l : List Sp3} {k : Nat} : stF (L ++ l) (L.length + k) = stI (l.getD k (0, 0, 0)) := by
  unfold stF
  rw [List.getD_eq_getElem?_getD, List.getD_eq_getElem?_getD, List.getElem?_append_right (by omega), Nat.add_sub_cancel_left]
theorem pAl_D {K N S E : Nat → Nat} {c : Nat} (W : tkW K N E c) : ∀ f j ts L bad, j ≤ c → lnD ts L bad → (pAl K N S f j ts L bad).1 = true → lnD (pAl K N S f j ts L bad).2.2.1 (pAl K N S f j ts L bad).2.2.2.1 (pAl K N S f j ts L bad).2.2.2.2 := by
  intro f
  induction f with
  | zero => intro j ts L bad _ h _; exact h
  | succ f ih =>
    intro j ts L bad hj h
    rw [pAl]
    by_cases e : K j = 0
    · rw [if_pos e]; intro _; exact h
    · rw [if_neg e]
      by_cases z : (pLn K N j).1 = true
      · rw [if_pos z]
        obtain ⟨o1, o2, o3, o4, o5⟩ := pLn_ok W j hj
        obtain ⟨k3, k2, dl⟩ := pLn_g j z
        obtain ⟨h1, h2⟩ := h
        refine ih _ _ _ _ o2 ⟨?_, fun i hi => ?_⟩
        · have ll : ∀ x : Nat × Nat, (ts ++ [x]).length = ts.length + 1 := fun x => by rw [List.length_append, List.length_singleton]
          rw [ll, enT_r]
        · have ll : ∀ x : Nat × Nat, (ts ++ [x]).length = ts.length + 1 := fun x => by rw [List.length_append, List.length_singleton]
          rw [ll] at hi
          have la : (L ++ (pLn K N j).2.2).length = L.length + (pLn K N j).2.2.length := List.length_append
          by_cases q : i = ts.length
          · subst q
            rw [enT_r, enT_l (Nat.le_refl _), ← h1, getD_r]
            refine ⟨by show L.length ≤ _; omega, Nat.le_refl _, ?_, fun bn => ?_⟩
            · rcases dl with w | w
              · exact Or.inl (by show (L ++ (pLn K N j).2.2).length = L.length; rw [w, List.append_nil])
              · refine Or.inr ?_
                show dep (stF (L ++ (pLn K N j).2.2)) L.length ((L ++ (pLn K N j).2.2).length - L.length) = some 1
                rw [la, Nat.add_sub_cancel_left, dep_dw o5 (fun k hk => stF_r), w]
            · unfold pBd at bn
              by_cases g : 1 ≤ N (j + 1) ∧ N (j + 1) ≤ 10
              · exact g
              · by_cases b0 : bad = none
                · rw [if_pos ⟨k3, k2, b0, g⟩] at bn; cases bn
                · rw [if_neg (fun w => b0 w.2.2.1)] at bn; exact absurd bn b0
          · obtain ⟨y1, y2, y3, y4⟩ := h2 i (by omega)
            rw [enT_l (by omega), enT_l (by omega), getD_l (by omega)]
            refine ⟨y1, by omega, ?_, fun bn => y4 ?_⟩
            · rcases y3 with w | w
              · exact Or.inl w
              · exact Or.inr (by rw [← w]; exact dep_cg _ (fun k hk => stF_l (by omega)))
            · unfold pBd at bn
              split at bn
              · cases bn
              · exact bn
      · rw [if_neg z]; intro w; cases w
/-- the lines as both sides have them -/
theorem rln_of {ts : List (Nat × Nat)} {L : List Sp3} {st en tk : Nat → Int32} {sz ln : Int32} {lo co : Nat → Int32} (D : lnD ts L none) (h12 : ts.length ≤ 12) (hL : 3 * L.length ≤ 160) (ok : ∀ s ∈ L, okSt s) (hsz : sz = Int32.ofNat ts.length) (hln : ln = Int32.ofNat ts.length) (hst : ∀ k, k < L.length → st k = stI (L.getD k (0, 0, 0)))
    (hen : ∀ i, i < ts.length → tk i = Int32.ofNat (ts.getD i (0, 0)).1 ∧ en i = Int32.ofNat (ts.getD i (0, 0)).2) (hlo : ∀ i, i < ts.length → lo (3 * i) = Int32.ofNat (ts.getD i (0, 0)).1 ∧ lo (3 * i + 1) = Int32.ofNat (enT ts i) ∧ lo (3 * i + 2) = Int32.ofNat (ts.getD i (0, 0)).2)
    (hco : ∀ i, i < L.length → co (3 * i) = Int32.ofNat (L.getD i (0, 0, 0)).1 ∧ co (3 * i + 1) = Int32.ofNat (L.getD i (0, 0, 0)).2.1 ∧ co (3 * i + 2) = Int32.ofNat (L.getD i (0, 0, 0)).2.2) : rln st en tk sz ln lo co := by
  obtain ⟨d1, d2⟩ := D
  have ee : ∀ i, enT ts (i + 1) = (ts.getD i (0, 0)).2 := fun i => by unfold enT; rw [if_neg (by omega), Nat.add_sub_cancel]
  refine ⟨ts.length, enT ts, h12, hsz, hln, rfl, fun l hl => (d2 l hl).1, by omega, fun l hl => ?_, fun k hk => ?_⟩
  · obtain ⟨y1, y2, y3, y4⟩ := d2 l hl
    obtain ⟨e1, e2⟩ := hen l hl
    obtain ⟨l1, l2, l3⟩ := hlo l hl
    have r := y4 rfl
    refine ⟨e1.trans l1.symm, ?_, by rw [e2, ee], l2, by rw [l3, ee], ?_⟩
    · rw [e1]
      unfold Rng
      rw [tn_i (by omega)]; omega
    · rcases y3 with w | w
      · exact Or.inl w
      · exact Or.inr (by rw [← w]; exact dep_cg _ (fun k hk => hst _ (by omega)))
  · rw [← d1] at hk
    obtain ⟨c1, c2, c3⟩ := hco k hk
    have e : L[k]? = some L[k] := List.getElem?_eq_getElem hk
    have eg : L.getD k (0, 0, 0) = L[k] := by rw [List.getD_eq_getElem?_getD, e]; rfl
    have o := ok _ (List.getElem_mem hk)
    rw [hst k hk, c1, c2, c3, eg]
    rcases o with w | w | w | ⟨v, m, hv, hm, w⟩
    · rw [w]; exact Or.inl ⟨rfl, rfl⟩
    · rw [w]; exact Or.inr (Or.inl ⟨rfl, rfl⟩)
    · rw [w]; exact Or.inr (Or.inr (Or.inl ⟨rfl, rfl⟩))
    · refine Or.inr (Or.inr (Or.inr ⟨v, m, hv, hm, ?_⟩))
      rcases w with w | w <;> rw [w] <;> unfold stI
      · rw [if_neg (by show ¬ v + 5 = 10; omega), if_neg (by show ¬ v + 5 = 11; omega), if_neg (by show ¬ v + 5 = 12; omega)]
        exact ⟨rfl, rfl, Or.inl ⟨rfl, by show Int32.ofNat (8 * m + 2 * (v + 5 - 5) + if (60 : Nat) = 61 then 1 else 0) = _; rw [if_neg (by decide), Nat.add_sub_cancel]; rfl⟩⟩
      · rw [if_neg (by show ¬ v + 5 = 10; omega), if_neg (by show ¬ v + 5 = 11; omega), if_neg (by show ¬ v + 5 = 12; omega)]
        exact ⟨rfl, rfl, Or.inr ⟨rfl, by show Int32.ofNat (8 * m + 2 * (v + 5 - 5) + if (61 : Nat) = 61 then 1 else 0) = _; rw [if_pos rfl, Nat.add_sub_cancel]⟩⟩
