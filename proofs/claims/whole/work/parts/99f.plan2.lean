/-! THE PLAN, 2: the pruned search finds the same -/
abbrev LEt : Type := Nat → Nat → Option Nat
def upL (L : LEt) (S i e : Nat) : LEt := fun S' i' => if S' = S ∧ i' = i then some e else L S' i'
def prB (L : LEt) (S i e : Nat) : Bool := match L S i with
  | some e0 => decide (e0 ≤ e)
  | none => false
theorem prB_t {L : LEt} {S i e : Nat} (h : prB L S i e = true) : ∃ e0, L S i = some e0 ∧ e0 ≤ e := by
  unfold prB at h
  cases c : L S i with
  | none => rw [c] at h; cases h
  | some e0 => rw [c] at h; exact ⟨e0, rfl, of_decide_eq_true h⟩
def cgo (P : PI) : Nat → List (Nat × Nat) → Nat → Nat → Nat → Nat → Bst × LEt → Bst × LEt
  | 0, _, _, _, _, _, σ => σ
  | f + 1, r, S, last, e, w, σ => fdF (fun σ i => match nxS P S last e i with
    | none => σ
    | some hh => if prB σ.2 (adB S i) i (hh + P.2.2.2.1 i) then σ else cgo P f (r ++ [(i, hh)]) (adB S i) i (hh + P.2.2.2.1 i) (w + P.2.1 i) (bsU σ.1 (w + P.2.1 i) (hh + P.2.2.2.1 i) (r ++ [(i, hh)]), upL σ.2 (adB S i) i (hh + P.2.2.2.1 i))) 0 P.1 σ
/-- its step at one station -/
def cgS (P : PI) (f : Nat) (r : List (Nat × Nat)) (S last e w : Nat) (σ : Bst × LEt) (i : Nat) : Bst × LEt := match nxS P S last e i with
  | none => σ
  | some hh => if prB σ.2 (adB S i) i (hh + P.2.2.2.1 i) then σ else cgo P f (r ++ [(i, hh)]) (adB S i) i (hh + P.2.2.2.1 i) (w + P.2.1 i) (bsU σ.1 (w + P.2.1 i) (hh + P.2.2.2.1 i) (r ++ [(i, hh)]), upL σ.2 (adB S i) i (hh + P.2.2.2.1 i))
theorem cgo_F (P : PI) (f : Nat) (r : List (Nat × Nat)) (S last e w : Nat) (σ : Bst × LEt) : cgo P (f + 1) r S last e w σ = fdF (cgS P f r S last e w) 0 P.1 σ := rfl
def subB (T S : Nat) : Prop := ∀ j, bt T j = true → bt S j = true
def jlE (P : PI) (S : Nat) (b : Bst) (L : LEt) : Prop := ∀ T i e0, L T i = some e0 → ¬ subB T S → ¬ btr b (wtB P.2.1 T P.1) e0 ∧ NBs P (P.1 - cdB T P.1) T i e0 (wtB P.2.1 T P.1) b
theorem nxS_f {P : PI} {S last e i h : Nat} (q : nxS P S last e i = some h) : bt S i = false := by
  unfold nxS at q
  by_cases c : bt S i = false ∧ ∀ q, q < 8 → bt S q = true → P.2.2.1 i q = false
  · exact c.1
  · rw [if_neg c] at q; cases q
theorem sub_ad (S i : Nat) : subB S (adB S i) := fun j h => by rw [bt_ad, h]; rfl
theorem sub_tr {A B C : Nat} (h : subB A B) (h2 : subB B C) : subB A C := fun j q => h2 j (h j q)
theorem nsub_ad {S i : Nat} (h : bt S i = false) : ¬ subB (adB S i) S := fun q => by
  have := q i (by rw [bt_ad]; simp)
  rw [h] at this; cases this
theorem cgo_eq {P : PI} (m : mnP P) (hn : P.1 ≤ 8) : ∀ f r S last e w b L, f + cdB S P.1 = P.1 → w = wtB P.2.1 S P.1 → rpB r S → (∀ q ∈ r, q.1 < 8) → jlE P S b L →
    (cgo P f r S last e w (b, L)).1 = bfR P f r last e w b ∧ jlE P S (cgo P f r S last e w (b, L)).1 (cgo P f r S last e w (b, L)).2 ∧ ∀ T i, subB T S → (cgo P f r S last e w (b, L)).2 T i = L T i := by
  intro f
  induction f with
  | zero => intro r S last e w b L _ _ _ _ J; exact ⟨rfl, J, fun _ _ _ => rfl⟩
  | succ f ih =>
    intro r S last e w b L hf hw hr h8 J
    rw [bfR_F, cgo_F]
    have K : ∀ mm i b L, i + mm = P.1 → jlE P S b L → (fdF (cgS P f r S last e w) i mm (b, L)).1 = fdF (bfS P f r last e w) i mm b ∧ jlE P S (fdF (cgS P f r S last e w) i mm (b, L)).1 (fdF (cgS P f r S last e w) i mm (b, L)).2 ∧ ∀ T j, subB T S → (fdF (cgS P f r S last e w) i mm (b, L)).2 T j = L T j := by
      intro mm
      induction mm with
      | zero => intro i b L _ J; exact ⟨rfl, J, fun _ _ _ => rfl⟩
      | succ mm ihm =>
        intro i b L hi J
        rw [fdF, fdF]
        have st : (cgS P f r S last e w (b, L) i).1 = bfS P f r last e w b i ∧ jlE P S (cgS P f r S last e w (b, L) i).1 (cgS P f r S last e w (b, L) i).2 ∧ ∀ T j, subB T S → (cgS P f r S last e w (b, L) i).2 T j = L T j := by
          unfold cgS bfS
          rw [nxt_S hr h8]
          cases c : nxS P S last e i with
          | none => exact ⟨rfl, J, fun _ _ _ => rfl⟩
          | some hh =>
            have b0 := nxS_f c
            have cd : cdB (adB S i) P.1 = cdB S P.1 + 1 := by rw [cdB_ad b0, if_pos (by omega)]
            have wt : wtB P.2.1 (adB S i) P.1 = w + P.2.1 i := by rw [wtB_ad b0, if_pos (by omega), hw]
            have ns := nsub_ad b0
            have hr' : rpB (r ++ [(i, hh)]) (adB S i) := rpB_ad hr
            have h8' : ∀ q ∈ r ++ [(i, hh)], q.1 < 8 := fun q hq => by
              rcases List.mem_append.mp hq with q1 | q1
              · exact h8 q q1
              · simp only [List.mem_singleton] at q1; rw [q1]; show i < 8; omega
            have fc : P.1 - cdB (adB S i) P.1 = f := by omega
            simp only
            cases p : prB L (adB S i) i (hh + P.2.2.2.1 i) with
            | true =>
              obtain ⟨e0, p1, p2⟩ := prB_t p
              obtain ⟨j1, j2⟩ := J _ _ _ p1 ns
              rw [fc, wt] at j2
              rw [wt] at j1
              have j3 : ¬ btr b (w + P.2.1 i) (hh + P.2.2.2.1 i) := fun q => j1 (by unfold btr at q ⊢; omega)
              rw [if_pos rfl, bsU_n j3, bfR_no hn f _ _ _ _ _ _ hr' h8' (NBs_e m _ _ _ _ _ _ p2 j2)]
              exact ⟨rfl, J, fun _ _ _ => rfl⟩
            | false =>
              rw [if_neg (by simp)]
              obtain ⟨u1, u2⟩ := gte_U b (w + P.2.1 i) (hh + P.2.2.2.1 i) (r ++ [(i, hh)])
              have J' : jlE P (adB S i) (bsU b (w + P.2.1 i) (hh + P.2.2.2.1 i) (r ++ [(i, hh)])) (upL L (adB S i) i (hh + P.2.2.2.1 i)) := by
                intro T i0 e0 hT nT
                have ne : ¬ (T = adB S i ∧ i0 = i) := fun q => nT (by rw [q.1]; exact fun _ h => h)
                unfold upL at hT
                rw [if_neg ne] at hT
                obtain ⟨j1, j2⟩ := J T i0 e0 hT (fun q => nT (sub_tr q (sub_ad S i)))
                exact ⟨fun q => j1 (u1 _ _ q), NBs_g u1 _ _ _ _ _ j2⟩
              obtain ⟨k1, k2, k3⟩ := ih (r ++ [(i, hh)]) (adB S i) i (hh + P.2.2.2.1 i) (w + P.2.1 i) _ _ (by omega) wt.symm hr' h8' J'
              obtain ⟨g1, g2⟩ := bfR_nb hn f (r ++ [(i, hh)]) (adB S i) i (hh + P.2.2.2.1 i) (w + P.2.1 i) (bsU b (w + P.2.1 i) (hh + P.2.2.2.1 i) (r ++ [(i, hh)])) hr' h8'
              rw [← k1] at g1 g2
              refine ⟨k1, fun T i0 e0 hT nT => ?_, fun T j hT => ?_⟩
              · by_cases sT : subB T (adB S i)
                · rw [k3 T i0 sT] at hT
                  unfold upL at hT
                  by_cases ne : T = adB S i ∧ i0 = i
                  · rw [if_pos ne] at hT
                    cases hT
                    obtain ⟨rfl, rfl⟩ := ne
                    rw [fc, wt]
                    exact ⟨fun q => u2 (g1 _ _ q), g2⟩
                  · rw [if_neg ne] at hT
                    obtain ⟨j1, j2⟩ := J T i0 e0 hT nT
                    exact ⟨fun q => j1 (u1 _ _ (g1 _ _ q)), NBs_g (gte_tr g1 u1) _ _ _ _ _ j2⟩
                · exact k2 T i0 e0 hT sT
              · rw [k3 T j (sub_tr hT (sub_ad S i))]
                unfold upL
                rw [if_neg]
                rintro ⟨q, -⟩
                exact ns (by rw [← q]; exact hT)
        obtain ⟨s1, s2, s3⟩ := st
        have pr : cgS P f r S last e w (b, L) i = ((cgS P f r S last e w (b, L) i).1, (cgS P f r S last e w (b, L) i).2) := rfl
        obtain ⟨k1, k2, k3⟩ := ihm (i + 1) _ _ (by omega) s2
        rw [← pr] at k1 k2 k3
        rw [s1] at k1
        exact ⟨k1, k2, fun T j hT => (k3 T j hT).trans (s3 T j hT)⟩
    exact K P.1 0 b L (by omega) J
theorem cgo_top {P : PI} (m : mnP P) (hn : P.1 ≤ 8) : (cgo P P.1 [] 0 8 0 0 ((0, 0, []), fun _ _ => none)).1 = bfP P := by
  have c0 : ∀ n, cdB 0 n = 0 := by
    intro n
    induction n with
    | zero => rfl
    | succ n ih => rw [cdB, ih, bt_0]; rfl
  have w0 : ∀ n, wtB P.2.1 0 n = 0 := by
    intro n
    induction n with
    | zero => rfl
    | succ n ih => rw [wtB, ih, bt_0]; rfl
  exact (cgo_eq m hn P.1 [] 0 8 0 0 (0, 0, []) (fun _ _ => none) (by rw [c0]; rfl) (w0 _).symm rpB_0 (fun q hq => absurd hq List.not_mem_nil) (fun T i e0 h => by cases h)).1
