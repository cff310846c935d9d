/-! SHAPES stay along a run; runs over a known start -/
def shK (h h' : Hp) : Prop := hN h ≤ hN h' ∧ ∀ a, a < hN h → hS h' a = hS h a
theorem shK_rf (h : Hp) : shK h h := ⟨Nat.le_refl _, fun _ _ => rfl⟩
theorem shK_tr {h h1 h2 : Hp} (g : shK h h1) (g2 : shK h1 h2) : shK h h2 := ⟨Nat.le_trans g.1 g2.1, fun a ha => (g2.2 a (Nat.lt_of_lt_of_le ha g.1)).trans (g.2 a ha)⟩
theorem shK_nw (h : Hp) (c l s : Nat) : shK h (nw h c l s) := ⟨Nat.le_succ _, fun _ ha => hS_nw_ne (Nat.ne_of_lt ha)⟩
theorem shK_sF (h : Hp) (k a : Nat) (v : Int32) : shK h (sF h k a v) := ⟨Nat.le_refl _, fun _ _ => rfl⟩
theorem shK_sG (h : Hp) (k a : Nat) (v : Option Nat) : shK h (sG h k a v) := ⟨Nat.le_refl _, fun _ _ => rfl⟩
theorem shK_sE (h : Hp) (k a : Nat) (v : Int32) : shK h (sE h k a v) := ⟨Nat.le_refl _, fun _ _ => rfl⟩
theorem shK_sQ (h : Hp) (k a : Nat) (v : Option Nat) : shK h (sQ h k a v) := ⟨Nat.le_refl _, fun _ _ => rfl⟩
theorem shK_cpE (h : Hp) (a sp b dp n : Nat) : shK h (cpE h a sp b dp n) := ⟨Nat.le_refl _, fun _ _ => rfl⟩
set_option maxHeartbeats 4000000 in
theorem stp_sh {cl : Nat → List AV → Hp → Rs} {k : List Op → LV → List AV → Hp → Rs} {d m : Nat} {i : Instr} {lk : List Nat} {z : Int} {ops : List Op} {ls : LV} {st : List AV} {h : Hp} {r : Option AV × Hp} (hr : stp cl k d m i lk z ops ls st h = some r) :
    (∃ ops' ls' st' h', StpK d m i lk z ops ls st h ops' ls' st' h' ∧ shK h h') ∨ (∃ y as rest, StpC d m i lk z ops ls st h y as rest) ∨ ∃ v, StpR d m i lk z ops ls st h v := by
  unfold stp at hr
  repeat' split at hr
  all_goals first
    | exact absurd hr.symm (Option.some_ne_none _)
    | exact Or.inl ⟨_, _, _, _, fun _ _ => rfl, shK_rf _⟩
    | exact Or.inl ⟨_, _, _, _, fun _ _ => rfl, shK_nw _ _ _ _⟩
    | exact Or.inr (Or.inr ⟨_, fun _ _ => rfl⟩)
    | exact Or.inl ⟨_, _, _, _, fun _ _ => gd_t (gd_some hr).1, shK_rf _⟩
    | exact Or.inl ⟨_, _, _, _, fun _ _ => gd_t (gd_some hr).1, shK_nw _ _ _ _⟩
    | exact Or.inl ⟨_, _, _, _, fun _ _ => gd_t (gd_some hr).1, shK_sF _ _ _ _⟩
    | exact Or.inl ⟨_, _, _, _, fun _ _ => gd_t (gd_some hr).1, shK_sG _ _ _ _⟩
    | exact Or.inl ⟨_, _, _, _, fun _ _ => gd_t (gd_some hr).1, shK_sE _ _ _ _⟩
    | exact Or.inl ⟨_, _, _, _, fun _ _ => gd_t (gd_some hr).1, shK_sQ _ _ _ _⟩
    | exact Or.inl ⟨_, _, _, _, fun _ _ => gd_t (gd_some hr).1, shK_cpE _ _ _ _ _ _⟩
    | exact Or.inr (Or.inr ⟨_, fun _ _ => gd_t (gd_some hr).1⟩)
    | exact Or.inr (Or.inl ⟨_, _, _, fun _ _ => gd_t (gd_some hr).1⟩)
    | (rename_i j v _ x heq; have hh : k ops (lset ls j (.inl (x + Int32.ofInt v))) st h = some r := hr; exact Or.inl ⟨ops, lset ls j (.inl (x + Int32.ofInt v)), st, h, fun _ _ => by unfold stp; simp only [heq], shK_rf _⟩)
    | (rename_i x heq; exact Or.inl ⟨ops, ls, .inl x :: st, h, fun _ _ => by unfold stp; simp only [heq], shK_rf _⟩)
    | (rename_i x heq; exact Or.inl ⟨ops, ls, .inr (.inl x) :: st, h, fun _ _ => by unfold stp; simp only [heq], shK_rf _⟩)
    | (rename_i x heq; exact Or.inl ⟨ops, ls, .inr (.inr x) :: st, h, fun _ _ => by unfold stp; simp only [heq], shK_rf _⟩)
    | (rename_i y j c _ _ _ a rest heq; exact Or.inr (Or.inl ⟨y, .inr (.inr (some a)) :: (st.take (j - 1)).reverse, rest, fun _ _ => by unfold stp; simp only [heq]; exact gd_t (gd_some hr).1⟩))
theorem ex_sh : ∀ (n d m : Nat) (ops : List Op) (ls : LV) (st : List AV) (h : Hp) (r : Option AV × Hp), ex n d m ops ls st h = some r → shK h r.2 := by
  intro n
  induction n with
  | zero => intro d m ops ls st h r hr; exact absurd hr (by simp [ex])
  | succ n ih =>
    intro d m ops ls st h r hr
    match ops with
    | [] => exact absurd hr (by simp [ex])
    | (pc, i, lk, z) :: ops =>
      rw [ex_s] at hr
      rcases stp_sh hr with ⟨o', l', s', h', hk, g⟩ | ⟨y, as, rest, hk⟩ | ⟨v, hk⟩
      · rw [hk] at hr; exact shK_tr g (ih _ _ _ _ _ _ _ hr)
      · rw [hk] at hr
        obtain ⟨q, h1, h2⟩ := Option.bind_eq_some_iff.mp hr
        cases d with
        | zero => exact absurd h1 (by simp [clF])
        | succ d => exact shK_tr (ih _ _ _ _ _ _ _ h1) (ih _ _ _ _ _ _ _ h2)
      · rw [hk] at hr; cases hr; exact shK_rf _
theorem Wc_iv {h0 h : Hp} (z0 : Z0 h0) {d y : Nat} {as : List AV} {Q : Option AV → Hp → Prop} (hy : y < nMeth - 1) (hI : Iv h0 h) (w : Wc d y as h Q) : Wc d y as h (fun r h' => Q r h' ∧ Iv h0 h' ∧ shK h h') := by
  obtain ⟨n, r, h', e, q⟩ := w
  have hy3 : y < nMeth := Nat.lt_of_lt_of_le hy (Nat.sub_le _ _)
  obtain ⟨e1, e2, e3⟩ := eb_chk hy3 e (mck_of hy).2.2.2.2.2.2.2.2
  have e' := e
  rw [e3] at e'
  exact ⟨n, r, h', e, q, (ex_iv z0 n d y _ _ _ _ _ hy3 e' e2 hI).1, ex_sh _ _ _ _ _ _ _ _ e⟩
theorem Wc_ex {d y : Nat} {as : List AV} {h : Hp} {Q : Option AV → Hp → Prop} (w : Wc d y as h Q) : ∃ r h', Q r h' := by
  obtain ⟨n, r, h', e, q⟩ := w
  exact ⟨r, h', q⟩
/-- a call of the class, then the same call of the reference -/
theorem two {h0 h : Hp} (z0 : Z0 h0) {d y y2 k : Nat} {as as2 : List AV} (hy : y < nMeth - 1) (hy2 : y2 < nMeth - 1) (hI : Iv h0 h) (w : Wc d y as h (fun r h1 => Wc d y2 as2 h1 (fun r2 h2 => Ow k r r2 h2))) {Q : Option AV → Hp → Prop}
    (hq : ∀ x h1, Iv h0 h1 → shK h h1 → Wc d y2 as2 h1 (fun r2 h2 => r2 = some (.inl x) ∧ Inv (k + 1) h2 ∧ Iv h0 h2) → Q (some (.inl x)) h1) : Wc d y as h Q := by
  refine (Wc_iv z0 hy hI w).mono ?_
  rintro r h1 ⟨w1, i1, g1⟩
  obtain ⟨r2, h2, x, rfl, -, -⟩ := Wc_ex w1
  refine hq x h1 i1 g1 ((Wc_iv z0 hy2 i1 w1).mono ?_)
  rintro r2 h2 ⟨⟨x', e1, e2, e3⟩, i2, -⟩
  cases e1
  exact ⟨e2, e3, i2⟩
