/-! SOUNDNESS, 12: the heap's own invariant along a run; the theorem -/
theorem Iv.obj {h0 h : Hp} (z : Z0 h0) (i : Iv h0 h) {a c : Nat} (hs : hS h a = (c, 0)) (h1 : 1 ≤ c) (h2 : c ≤ 12) : 64 ≤ a := (i.new z (a := a) (by rw [hs]; simp only; omega) (by rw [hs]; simp only; omega) (by rw [hs]; simp only; omega) (by rw [hs]; simp only; omega)).1
theorem Iv.arr {h0 h : Hp} (z : Z0 h0) (i : Iv h0 h) {a c : Nat} (hs : (hS h a).1 = c) (h1 : c = 100 ∨ c = 101) : 64 ≤ a := (i.new z (a := a) (by omega) (by omega) (by omega) (by omega)).1
theorem tg_len {y pc : Nat} {os : List Int} {bs : List Nat} {lo hi x : Int} (hl : ∀ (j : Nat) (b : Nat), bs[j]? = some b → ∃ o, os[j]? = some o ∧ (pc : Int) + o = (fpc y b : Int) ∧ b < (mth y).1.length) (hlen : hi - lo + 1 = (bs.length : Int)) (hq : ¬ (x < lo ∨ hi < x)) : bs.getD (x - lo).toNat 0 < (mth y).1.length := by
  have hix : (x - lo).toNat < bs.length := by omega
  rw [List.getD_eq_getElem?_getD, List.getElem?_eq_getElem hix]
  obtain ⟨_, _, _, h⟩ := hl _ _ (List.getElem?_eq_getElem hix)
  exact h
set_option maxHeartbeats 2000000 in
theorem stp_iv {cl : Nat → List AV → Hp → Rs} {k : List Op → LV → List AV → Hp → Rs} {h0 : Hp} {d y pc : Nat} {i : Instr} {lk : List Nat} {z : Int} {ops : List Op} {ls : LV} {st : List AV} {h : Hp} {r : Option AV × Hp} (hy : y < nMeth) (z0 : Z0 h0) (hI : Iv h0 h) (hk : chkL y ((pc, i, lk, z) :: ops) = true) (hr : stp cl k d y i lk z ops ls st h = some r) :
    (∃ o l s h2, k o l s h2 = some r ∧ chkL y o = true ∧ Iv h0 h2 ∧ hN h ≤ hN h2 ∧ hU h ≤ hU h2) ∨ (∃ y2 as rest r1 h1, cl y2 as h = some (r1, h1) ∧ y2 < nMeth - 1 ∧ k ops ls (psh r1 rest) h1 = some r ∧ chkL y ops = true) ∨ r.2 = h := by
  unfold stp at hr
  split at hr
  all_goals first
    | (have hc := (chk_next hk rfl).2.2.2
       repeat' split at hr
       all_goals first
         | exact absurd hr.symm (Option.some_ne_none _)
         | exact Or.inl ⟨_, _, _, _, hr, hc, hI, Nat.le_refl _, Nat.le_refl _⟩
         | exact Or.inl ⟨_, _, _, _, (gd_some hr).2, hc, hI, Nat.le_refl _, Nat.le_refl _⟩)
    | (have ht := chk_last hk rfl
       split at hr
       · simp only [chkT, Bool.and_eq_true, decide_eq_true_eq] at ht
         exact Or.inl ⟨_, _, _, _, hr, blk_chk hy ht.2, hI, Nat.le_refl _, Nat.le_refl _⟩
       · exact absurd hr.symm (Option.some_ne_none _))
    | (obtain ⟨-, -, hlk, hc⟩ := chk_next hk rfl
       split at hr
       · simp only [lkc, Bool.and_eq_true, decide_eq_true_eq] at hlk
         refine Or.inl ⟨_, _, _, _, hr, ?_, hI, Nat.le_refl _, Nat.le_refl _⟩
         split
         · first | exact blk_chk hy hlk.2 | exact hc
         · first | exact blk_chk hy hlk.2 | exact hc
       · exact absurd hr.symm (Option.some_ne_none _))
    | (exact absurd hr.symm (Option.some_ne_none _))
    | skip
  case h_55 =>
    have ht := chk_last hk rfl
    split at hr
    · simp only [chkT, Bool.and_eq_true, decide_eq_true_eq] at ht
      obtain ⟨⟨⟨⟨hdc, ht1⟩, hdf⟩, htg⟩, hlen⟩ := ht
      obtain ⟨hl1, hl2⟩ := tgts_at _ _ htg
      refine Or.inl ⟨_, _, _, _, hr, ?_, hI, Nat.le_refl _, Nat.le_refl _⟩
      split
      · exact blk_chk hy hdf
      · rename_i hq
        refine blk_chk hy (tg_len hl2 hlen hq)
    · exact absurd hr.symm (Option.some_ne_none _)
  case h_56 =>
    have ht := chk_last hk rfl
    split at hr
    · simp only [chkT, Bool.and_eq_true, decide_eq_true_eq] at ht
      obtain ⟨⟨⟨⟨hdc, ht1⟩, hdf⟩, htg⟩, hsrt⟩ := ht
      exact Or.inl ⟨_, _, _, _, hr, blk_chk hy (swix_at ⟨ht1, hdf⟩ _ _ _ htg).2, hI, Nat.le_refl _, Nat.le_refl _⟩
    · exact absurd hr.symm (Option.some_ne_none _)
  case h_58 =>
    obtain ⟨-, -, hlk, hc⟩ := chk_next hk rfl
    split at hr
    · simp only [lkc, Bool.and_eq_true, decide_eq_true_eq] at hlk
      obtain ⟨hg, hr⟩ := gd_some hr
      exact Or.inl ⟨_, _, _, _, hr, hc, hI.sF (hI.obj z0 hg.1 hlk.1.1.1.1.1.1 hlk.1.1.1.1.1.2), Nat.le_refl _, Nat.le_refl _⟩
    · simp only [lkc, Bool.and_eq_true, decide_eq_true_eq] at hlk
      obtain ⟨hg, hr⟩ := gd_some hr
      exact Or.inl ⟨_, _, _, _, hr, hc, hI.sG (hI.obj z0 hg.1 hlk.1.1.1.1.1.1 hlk.1.1.1.1.1.2), Nat.le_refl _, Nat.le_refl _⟩
    · exact absurd hr.symm (Option.some_ne_none _)
  case h_63 =>
    obtain ⟨-, -, hlk, hc⟩ := chk_next hk rfl
    split at hr
    · obtain ⟨hg, hr⟩ := gd_some hr
      exact Or.inl ⟨_, _, _, _, hr, hc, hI.sE (hI.arr z0 hg.1 (Or.inl rfl)), Nat.le_refl _, Nat.le_refl _⟩
    · exact absurd hr.symm (Option.some_ne_none _)
  case h_64 =>
    obtain ⟨-, -, hlk, hc⟩ := chk_next hk rfl
    split at hr
    · obtain ⟨hg, hr⟩ := gd_some hr
      exact Or.inl ⟨_, _, _, _, hr, hc, hI.sE (hI.arr z0 hg.1 (Or.inr rfl)), Nat.le_refl _, Nat.le_refl _⟩
    · exact absurd hr.symm (Option.some_ne_none _)
  case h_67 =>
    obtain ⟨-, -, hlk, hc⟩ := chk_next hk rfl
    split at hr
    · simp only [lkc, Bool.and_eq_true, decide_eq_true_eq] at hlk
      exact Or.inl ⟨_, _, _, _, hr, hc, hI.nw (Or.inl ⟨hlk.1.1.1, hlk.1.1.2, rfl⟩), Nat.le_succ _, Nat.le_add_right _ _⟩
    · exact absurd hr.symm (Option.some_ne_none _)
  case h_68 =>
    obtain ⟨-, -, hlk, hc⟩ := chk_next hk rfl
    split at hr
    · simp only [lkc, Bool.and_eq_true, Bool.or_eq_true, decide_eq_true_eq] at hlk
      obtain ⟨hg, hr⟩ := gd_some hr
      refine Or.inl ⟨_, _, _, _, hr, hc, hI.nw ?_, Nat.le_succ _, Nat.le_add_right _ _⟩
      rcases hlk with q | q
      · exact Or.inr (Or.inl q.2)
      · exact Or.inr (Or.inr (Or.inl q.2))
    · exact absurd hr.symm (Option.some_ne_none _)
  case h_69 =>
    obtain ⟨-, -, hlk, hc⟩ := chk_next hk rfl
    split at hr
    · simp only [lkc, Bool.and_eq_true, decide_eq_true_eq] at hlk
      obtain ⟨hg, hr⟩ := gd_some hr
      exact Or.inl ⟨_, _, _, _, hr, hc, hI.nw (Or.inr (Or.inr (Or.inr hlk.1))), Nat.le_succ _, Nat.le_add_right _ _⟩
    · exact absurd hr.symm (Option.some_ne_none _)
  case h_70 =>
    obtain ⟨-, -, hlk, hc⟩ := chk_next hk rfl
    split at hr
    · split at hr
      · obtain ⟨hg, hr⟩ := gd_some hr
        exact Or.inl ⟨_, _, _, _, hr, hc, hI.cpE (hI.arr z0 hg.2.1 (Or.inl rfl)), Nat.le_refl _, Nat.le_refl _⟩
      · exact absurd hr.symm (Option.some_ne_none _)
    · simp only [lkc, Bool.and_eq_true, decide_eq_true_eq] at hlk
      obtain ⟨hg, hr⟩ := gd_some hr
      obtain ⟨⟨r1, h1⟩, hc1, hr⟩ := Option.bind_eq_some_iff.mp hr
      exact Or.inr (Or.inl ⟨_, _, _, r1, h1, hc1, hlk.1.1.1, hr, hc⟩)
    · exact absurd hr.symm (Option.some_ne_none _)
  case h_71 =>
    obtain ⟨-, -, hlk, hc⟩ := chk_next hk rfl
    split at hr
    · split at hr
      · simp only [lkc, Bool.and_eq_true, decide_eq_true_eq] at hlk
        obtain ⟨hg, hr⟩ := gd_some hr
        obtain ⟨⟨r1, h1⟩, hc1, hr⟩ := Option.bind_eq_some_iff.mp hr
        exact Or.inr (Or.inl ⟨_, _, _, r1, h1, hc1, hlk.1.1.1.1.1.1, hr, hc⟩)
      · exact absurd hr.symm (Option.some_ne_none _)
    · exact absurd hr.symm (Option.some_ne_none _)
  case h_72 =>
    obtain ⟨-, -, hlk, hc⟩ := chk_next hk rfl
    split at hr
    · split at hr
      · obtain ⟨hg, hr⟩ := gd_some hr
        exact Or.inl ⟨_, _, _, _, hr, hc, hI, Nat.le_refl _, Nat.le_refl _⟩
      · exact absurd hr.symm (Option.some_ne_none _)
    · split at hr
      · simp only [lkc, Bool.and_eq_true, decide_eq_true_eq] at hlk
        obtain ⟨hg, hr⟩ := gd_some hr
        obtain ⟨⟨r1, h1⟩, hc1, hr⟩ := Option.bind_eq_some_iff.mp hr
        exact Or.inr (Or.inl ⟨_, _, _, r1, h1, hc1, hlk.1.1.1.1.1.1.1.1, hr, hc⟩)
      · exact absurd hr.symm (Option.some_ne_none _)
    · exact absurd hr.symm (Option.some_ne_none _)
  case h_73 =>
    split at hr
    · obtain ⟨hg, hr⟩ := gd_some hr
      cases hr
      exact Or.inr (Or.inr rfl)
    · exact absurd hr.symm (Option.some_ne_none _)
  case h_74 =>
    split at hr
    · cases hr
      exact Or.inr (Or.inr rfl)
    · exact absurd hr.symm (Option.some_ne_none _)
  case h_75 =>
    split at hr
    · cases hr
      exact Or.inr (Or.inr rfl)
    · exact absurd hr.symm (Option.some_ne_none _)
  case h_76 =>
    split at hr
    · cases hr
      exact Or.inr (Or.inr rfl)
    · exact absurd hr.symm (Option.some_ne_none _)
theorem eb_chk {y : Nat} {as : List AV} (hy : y < nMeth) {n d : Nat} {ls : LV} {st : List AV} {h : Hp} {r : Option AV × Hp} (hr : ex n d y (eb y as) ls st h = some r) (h0 : (mth y).1 ≠ []) : aw as ≤ mxl y ∧ chkL y (blk y 0) = true ∧ eb y as = blk y 0 := by
  unfold eb at hr ⊢
  by_cases e : aw as ≤ mxl y
  · exact ⟨e, blk_chk hy (List.length_pos_iff.mpr h0), if_pos e⟩
  · rw [if_neg e] at hr
    cases n with
    | zero => exact absurd hr (by simp [ex])
    | succ n => exact absurd hr (by simp [ex])
theorem ex_iv {h0 : Hp} (z0 : Z0 h0) : ∀ (n d y : Nat) (ops : List Op) (ls : LV) (st : List AV) (h : Hp) (r : Option AV × Hp), y < nMeth → ex n d y ops ls st h = some r → chkL y ops = true → Iv h0 h → Iv h0 r.2 ∧ hN h ≤ hN r.2 ∧ hU h ≤ hU r.2 := by
  intro n
  induction n with
  | zero => intro d y ops ls st h r hy hr; exact absurd hr (by simp [ex])
  | succ n ih =>
    intro d y ops ls st h r hy hr hk hI
    match ops with
    | [] => exact absurd hr (by simp [ex])
    | (pc, i, lk, z) :: ops =>
      rw [ex_s] at hr
      rcases stp_iv hy z0 hI hk hr with ⟨o, l, s, h2, hr2, hk2, hI2, g1, g2⟩ | ⟨y2, as, rest, r1, h1, hc, hy2, hr2, hk2⟩ | e
      · obtain ⟨a1, a2, a3⟩ := ih _ _ _ _ _ _ _ hy hr2 hk2 hI2
        exact ⟨a1, Nat.le_trans g1 a2, Nat.le_trans g2 a3⟩
      · have hy3 : y2 < nMeth := Nat.lt_of_lt_of_le hy2 (Nat.sub_le _ _)
        cases d with
        | zero => exact absurd hc (by simp [clF])
        | succ d =>
          have hc : ex n d y2 (eb y2 as) (en (mxl y2) as) [] h = some (r1, h1) := hc
          obtain ⟨e1, e2, e3⟩ := eb_chk hy3 hc (mck_of hy2).2.2.2.2.2.2.2.2
          rw [e3] at hc
          obtain ⟨a1, a2, a3⟩ := ih _ _ _ _ _ _ _ hy3 hc e2 hI
          obtain ⟨b1, b2, b3⟩ := ih _ _ _ _ _ _ _ hy hr2 hk2 a1
          exact ⟨b1, Nat.le_trans a2 b2, Nat.le_trans a3 b3⟩
      · rw [e]; exact ⟨hI, Nat.le_refl _, Nat.le_refl _⟩
