/-! SOUNDNESS, 6: the instructions that leave the heap (written by wip/whole/mk14.py) -/
theorem sn_iconst {X : Cxt} {P : Par} {n0 u0 y d pc : Nat} {lk : List Nat} {z : Int} {ops : List Op} {ls : LV} {st : List AV} {h : Hp} {cl : Nat → List AV → Hp → Rs} {k : List Op → LV → List AV → Hp → Rs} {r : Option AV × Hp} {v : Int} (C : Cx X P y d n0) (hk : chkL y ((pc, .iconst v, lk, z) :: ops) = true) (hr : stp cl k d y (.iconst v) lk z ops ls st h = some r) (ih : ∀ o l s, k o l s h = some r → chkL y o = true → GoW X P n0 u0 y o l s h) : GoW X P n0 u0 y ((pc, .iconst v, lk, z) :: ops) ls st h := by
  obtain ⟨p, l, e, R, s, m, args, below, meth, c, Q⟩ := X
  obtain ⟨hx, hb, hml, hown, hts, hin, hG, hbs, hfr, hlo⟩ := C
  obtain ⟨hd, hpc, hlk, hck⟩ := chk_next hk rfl
  unfold stp at hr
  dsimp only at hr
  intro H locs lsA hR hS hL
  have w := ih _ _ _ hr hck H locs lsA hR hS hL
  rw [hpc] at w
  exact lv_iconst hx hb hd rfl w
theorem sn_bipush {X : Cxt} {P : Par} {n0 u0 y d pc : Nat} {lk : List Nat} {z : Int} {ops : List Op} {ls : LV} {st : List AV} {h : Hp} {cl : Nat → List AV → Hp → Rs} {k : List Op → LV → List AV → Hp → Rs} {r : Option AV × Hp} {v : Int} (C : Cx X P y d n0) (hk : chkL y ((pc, .bipush v, lk, z) :: ops) = true) (hr : stp cl k d y (.bipush v) lk z ops ls st h = some r) (ih : ∀ o l s, k o l s h = some r → chkL y o = true → GoW X P n0 u0 y o l s h) : GoW X P n0 u0 y ((pc, .bipush v, lk, z) :: ops) ls st h := by
  obtain ⟨p, l, e, R, s, m, args, below, meth, c, Q⟩ := X
  obtain ⟨hx, hb, hml, hown, hts, hin, hG, hbs, hfr, hlo⟩ := C
  obtain ⟨hd, hpc, hlk, hck⟩ := chk_next hk rfl
  unfold stp at hr
  dsimp only at hr
  intro H locs lsA hR hS hL
  have w := ih _ _ _ hr hck H locs lsA hR hS hL
  rw [hpc] at w
  exact lv_bipush hx hb hd rfl w
theorem sn_sipush {X : Cxt} {P : Par} {n0 u0 y d pc : Nat} {lk : List Nat} {z : Int} {ops : List Op} {ls : LV} {st : List AV} {h : Hp} {cl : Nat → List AV → Hp → Rs} {k : List Op → LV → List AV → Hp → Rs} {r : Option AV × Hp} {v : Int} (C : Cx X P y d n0) (hk : chkL y ((pc, .sipush v, lk, z) :: ops) = true) (hr : stp cl k d y (.sipush v) lk z ops ls st h = some r) (ih : ∀ o l s, k o l s h = some r → chkL y o = true → GoW X P n0 u0 y o l s h) : GoW X P n0 u0 y ((pc, .sipush v, lk, z) :: ops) ls st h := by
  obtain ⟨p, l, e, R, s, m, args, below, meth, c, Q⟩ := X
  obtain ⟨hx, hb, hml, hown, hts, hin, hG, hbs, hfr, hlo⟩ := C
  obtain ⟨hd, hpc, hlk, hck⟩ := chk_next hk rfl
  unfold stp at hr
  dsimp only at hr
  intro H locs lsA hR hS hL
  have w := ih _ _ _ hr hck H locs lsA hR hS hL
  rw [hpc] at w
  exact lv_sipush hx hb hd rfl w
theorem sn_lconst {X : Cxt} {P : Par} {n0 u0 y d pc : Nat} {lk : List Nat} {z : Int} {ops : List Op} {ls : LV} {st : List AV} {h : Hp} {cl : Nat → List AV → Hp → Rs} {k : List Op → LV → List AV → Hp → Rs} {r : Option AV × Hp} {v : Fin 2} (C : Cx X P y d n0) (hk : chkL y ((pc, .lconst v, lk, z) :: ops) = true) (hr : stp cl k d y (.lconst v) lk z ops ls st h = some r) (ih : ∀ o l s, k o l s h = some r → chkL y o = true → GoW X P n0 u0 y o l s h) : GoW X P n0 u0 y ((pc, .lconst v, lk, z) :: ops) ls st h := by
  obtain ⟨p, l, e, R, s, m, args, below, meth, c, Q⟩ := X
  obtain ⟨hx, hb, hml, hown, hts, hin, hG, hbs, hfr, hlo⟩ := C
  obtain ⟨hd, hpc, hlk, hck⟩ := chk_next hk rfl
  unfold stp at hr
  dsimp only at hr
  intro H locs lsA hR hS hL
  have w := ih _ _ _ hr hck H locs lsA hR hS hL
  rw [hpc] at w
  exact lv_lconst hx hb hd rfl w
theorem sn_null {X : Cxt} {P : Par} {n0 u0 y d pc : Nat} {lk : List Nat} {z : Int} {ops : List Op} {ls : LV} {st : List AV} {h : Hp} {cl : Nat → List AV → Hp → Rs} {k : List Op → LV → List AV → Hp → Rs} {r : Option AV × Hp}  (C : Cx X P y d n0) (hk : chkL y ((pc, .aconst_null, lk, z) :: ops) = true) (hr : stp cl k d y (.aconst_null) lk z ops ls st h = some r) (ih : ∀ o l s, k o l s h = some r → chkL y o = true → GoW X P n0 u0 y o l s h) : GoW X P n0 u0 y ((pc, .aconst_null, lk, z) :: ops) ls st h := by
  obtain ⟨p, l, e, R, s, m, args, below, meth, c, Q⟩ := X
  obtain ⟨hx, hb, hml, hown, hts, hin, hG, hbs, hfr, hlo⟩ := C
  obtain ⟨hd, hpc, hlk, hck⟩ := chk_next hk rfl
  unfold stp at hr
  dsimp only at hr
  intro H locs lsA hR hS hL
  have w := ih _ _ _ hr hck H locs lsA hR hS hL
  rw [hpc] at w
  exact lv_null hx hb hd w
theorem sn_iadd {X : Cxt} {P : Par} {n0 u0 y d pc : Nat} {lk : List Nat} {z : Int} {ops : List Op} {ls : LV} {st : List AV} {h : Hp} {cl : Nat → List AV → Hp → Rs} {k : List Op → LV → List AV → Hp → Rs} {r : Option AV × Hp}  (C : Cx X P y d n0) (hk : chkL y ((pc, .iadd, lk, z) :: ops) = true) (hr : stp cl k d y (.iadd) lk z ops ls st h = some r) (ih : ∀ o l s, k o l s h = some r → chkL y o = true → GoW X P n0 u0 y o l s h) : GoW X P n0 u0 y ((pc, .iadd, lk, z) :: ops) ls st h := by
  obtain ⟨p, l, e, R, s, m, args, below, meth, c, Q⟩ := X
  obtain ⟨hx, hb, hml, hown, hts, hin, hG, hbs, hfr, hlo⟩ := C
  obtain ⟨hd, hpc, hlk, hck⟩ := chk_next hk rfl
  unfold stp at hr
  dsimp only at hr
  split at hr
  · intro H locs lsA hR hS hL
    have w := ih _ _ _ hr hck H locs lsA hR hS hL
    rw [hpc] at w
    exact lv_iadd hx hb hd w
  · exact absurd hr.symm (Option.some_ne_none _)
theorem sn_isub {X : Cxt} {P : Par} {n0 u0 y d pc : Nat} {lk : List Nat} {z : Int} {ops : List Op} {ls : LV} {st : List AV} {h : Hp} {cl : Nat → List AV → Hp → Rs} {k : List Op → LV → List AV → Hp → Rs} {r : Option AV × Hp}  (C : Cx X P y d n0) (hk : chkL y ((pc, .isub, lk, z) :: ops) = true) (hr : stp cl k d y (.isub) lk z ops ls st h = some r) (ih : ∀ o l s, k o l s h = some r → chkL y o = true → GoW X P n0 u0 y o l s h) : GoW X P n0 u0 y ((pc, .isub, lk, z) :: ops) ls st h := by
  obtain ⟨p, l, e, R, s, m, args, below, meth, c, Q⟩ := X
  obtain ⟨hx, hb, hml, hown, hts, hin, hG, hbs, hfr, hlo⟩ := C
  obtain ⟨hd, hpc, hlk, hck⟩ := chk_next hk rfl
  unfold stp at hr
  dsimp only at hr
  split at hr
  · intro H locs lsA hR hS hL
    have w := ih _ _ _ hr hck H locs lsA hR hS hL
    rw [hpc] at w
    exact lv_isub hx hb hd w
  · exact absurd hr.symm (Option.some_ne_none _)
theorem sn_imul {X : Cxt} {P : Par} {n0 u0 y d pc : Nat} {lk : List Nat} {z : Int} {ops : List Op} {ls : LV} {st : List AV} {h : Hp} {cl : Nat → List AV → Hp → Rs} {k : List Op → LV → List AV → Hp → Rs} {r : Option AV × Hp}  (C : Cx X P y d n0) (hk : chkL y ((pc, .imul, lk, z) :: ops) = true) (hr : stp cl k d y (.imul) lk z ops ls st h = some r) (ih : ∀ o l s, k o l s h = some r → chkL y o = true → GoW X P n0 u0 y o l s h) : GoW X P n0 u0 y ((pc, .imul, lk, z) :: ops) ls st h := by
  obtain ⟨p, l, e, R, s, m, args, below, meth, c, Q⟩ := X
  obtain ⟨hx, hb, hml, hown, hts, hin, hG, hbs, hfr, hlo⟩ := C
  obtain ⟨hd, hpc, hlk, hck⟩ := chk_next hk rfl
  unfold stp at hr
  dsimp only at hr
  split at hr
  · intro H locs lsA hR hS hL
    have w := ih _ _ _ hr hck H locs lsA hR hS hL
    rw [hpc] at w
    exact lv_imul hx hb hd w
  · exact absurd hr.symm (Option.some_ne_none _)
theorem sn_iand {X : Cxt} {P : Par} {n0 u0 y d pc : Nat} {lk : List Nat} {z : Int} {ops : List Op} {ls : LV} {st : List AV} {h : Hp} {cl : Nat → List AV → Hp → Rs} {k : List Op → LV → List AV → Hp → Rs} {r : Option AV × Hp}  (C : Cx X P y d n0) (hk : chkL y ((pc, .iand, lk, z) :: ops) = true) (hr : stp cl k d y (.iand) lk z ops ls st h = some r) (ih : ∀ o l s, k o l s h = some r → chkL y o = true → GoW X P n0 u0 y o l s h) : GoW X P n0 u0 y ((pc, .iand, lk, z) :: ops) ls st h := by
  obtain ⟨p, l, e, R, s, m, args, below, meth, c, Q⟩ := X
  obtain ⟨hx, hb, hml, hown, hts, hin, hG, hbs, hfr, hlo⟩ := C
  obtain ⟨hd, hpc, hlk, hck⟩ := chk_next hk rfl
  unfold stp at hr
  dsimp only at hr
  split at hr
  · intro H locs lsA hR hS hL
    have w := ih _ _ _ hr hck H locs lsA hR hS hL
    rw [hpc] at w
    exact lv_iand hx hb hd w
  · exact absurd hr.symm (Option.some_ne_none _)
theorem sn_ior {X : Cxt} {P : Par} {n0 u0 y d pc : Nat} {lk : List Nat} {z : Int} {ops : List Op} {ls : LV} {st : List AV} {h : Hp} {cl : Nat → List AV → Hp → Rs} {k : List Op → LV → List AV → Hp → Rs} {r : Option AV × Hp}  (C : Cx X P y d n0) (hk : chkL y ((pc, .ior, lk, z) :: ops) = true) (hr : stp cl k d y (.ior) lk z ops ls st h = some r) (ih : ∀ o l s, k o l s h = some r → chkL y o = true → GoW X P n0 u0 y o l s h) : GoW X P n0 u0 y ((pc, .ior, lk, z) :: ops) ls st h := by
  obtain ⟨p, l, e, R, s, m, args, below, meth, c, Q⟩ := X
  obtain ⟨hx, hb, hml, hown, hts, hin, hG, hbs, hfr, hlo⟩ := C
  obtain ⟨hd, hpc, hlk, hck⟩ := chk_next hk rfl
  unfold stp at hr
  dsimp only at hr
  split at hr
  · intro H locs lsA hR hS hL
    have w := ih _ _ _ hr hck H locs lsA hR hS hL
    rw [hpc] at w
    exact lv_ior hx hb hd w
  · exact absurd hr.symm (Option.some_ne_none _)
theorem sn_ixor {X : Cxt} {P : Par} {n0 u0 y d pc : Nat} {lk : List Nat} {z : Int} {ops : List Op} {ls : LV} {st : List AV} {h : Hp} {cl : Nat → List AV → Hp → Rs} {k : List Op → LV → List AV → Hp → Rs} {r : Option AV × Hp}  (C : Cx X P y d n0) (hk : chkL y ((pc, .ixor, lk, z) :: ops) = true) (hr : stp cl k d y (.ixor) lk z ops ls st h = some r) (ih : ∀ o l s, k o l s h = some r → chkL y o = true → GoW X P n0 u0 y o l s h) : GoW X P n0 u0 y ((pc, .ixor, lk, z) :: ops) ls st h := by
  obtain ⟨p, l, e, R, s, m, args, below, meth, c, Q⟩ := X
  obtain ⟨hx, hb, hml, hown, hts, hin, hG, hbs, hfr, hlo⟩ := C
  obtain ⟨hd, hpc, hlk, hck⟩ := chk_next hk rfl
  unfold stp at hr
  dsimp only at hr
  split at hr
  · intro H locs lsA hR hS hL
    have w := ih _ _ _ hr hck H locs lsA hR hS hL
    rw [hpc] at w
    exact lv_ixor hx hb hd w
  · exact absurd hr.symm (Option.some_ne_none _)
theorem sn_ishl {X : Cxt} {P : Par} {n0 u0 y d pc : Nat} {lk : List Nat} {z : Int} {ops : List Op} {ls : LV} {st : List AV} {h : Hp} {cl : Nat → List AV → Hp → Rs} {k : List Op → LV → List AV → Hp → Rs} {r : Option AV × Hp}  (C : Cx X P y d n0) (hk : chkL y ((pc, .ishl, lk, z) :: ops) = true) (hr : stp cl k d y (.ishl) lk z ops ls st h = some r) (ih : ∀ o l s, k o l s h = some r → chkL y o = true → GoW X P n0 u0 y o l s h) : GoW X P n0 u0 y ((pc, .ishl, lk, z) :: ops) ls st h := by
  obtain ⟨p, l, e, R, s, m, args, below, meth, c, Q⟩ := X
  obtain ⟨hx, hb, hml, hown, hts, hin, hG, hbs, hfr, hlo⟩ := C
  obtain ⟨hd, hpc, hlk, hck⟩ := chk_next hk rfl
  unfold stp at hr
  dsimp only at hr
  split at hr
  · intro H locs lsA hR hS hL
    have w := ih _ _ _ hr hck H locs lsA hR hS hL
    rw [hpc] at w
    exact lv_ishl hx hb hd w
  · exact absurd hr.symm (Option.some_ne_none _)
theorem sn_ishr {X : Cxt} {P : Par} {n0 u0 y d pc : Nat} {lk : List Nat} {z : Int} {ops : List Op} {ls : LV} {st : List AV} {h : Hp} {cl : Nat → List AV → Hp → Rs} {k : List Op → LV → List AV → Hp → Rs} {r : Option AV × Hp}  (C : Cx X P y d n0) (hk : chkL y ((pc, .ishr, lk, z) :: ops) = true) (hr : stp cl k d y (.ishr) lk z ops ls st h = some r) (ih : ∀ o l s, k o l s h = some r → chkL y o = true → GoW X P n0 u0 y o l s h) : GoW X P n0 u0 y ((pc, .ishr, lk, z) :: ops) ls st h := by
  obtain ⟨p, l, e, R, s, m, args, below, meth, c, Q⟩ := X
  obtain ⟨hx, hb, hml, hown, hts, hin, hG, hbs, hfr, hlo⟩ := C
  obtain ⟨hd, hpc, hlk, hck⟩ := chk_next hk rfl
  unfold stp at hr
  dsimp only at hr
  split at hr
  · intro H locs lsA hR hS hL
    have w := ih _ _ _ hr hck H locs lsA hR hS hL
    rw [hpc] at w
    exact lv_ishr hx hb hd w
  · exact absurd hr.symm (Option.some_ne_none _)
theorem sn_ineg {X : Cxt} {P : Par} {n0 u0 y d pc : Nat} {lk : List Nat} {z : Int} {ops : List Op} {ls : LV} {st : List AV} {h : Hp} {cl : Nat → List AV → Hp → Rs} {k : List Op → LV → List AV → Hp → Rs} {r : Option AV × Hp}  (C : Cx X P y d n0) (hk : chkL y ((pc, .ineg, lk, z) :: ops) = true) (hr : stp cl k d y (.ineg) lk z ops ls st h = some r) (ih : ∀ o l s, k o l s h = some r → chkL y o = true → GoW X P n0 u0 y o l s h) : GoW X P n0 u0 y ((pc, .ineg, lk, z) :: ops) ls st h := by
  obtain ⟨p, l, e, R, s, m, args, below, meth, c, Q⟩ := X
  obtain ⟨hx, hb, hml, hown, hts, hin, hG, hbs, hfr, hlo⟩ := C
  obtain ⟨hd, hpc, hlk, hck⟩ := chk_next hk rfl
  unfold stp at hr
  dsimp only at hr
  split at hr
  · intro H locs lsA hR hS hL
    have w := ih _ _ _ hr hck H locs lsA hR hS hL
    rw [hpc] at w
    exact lv_ineg hx hb hd w
  · exact absurd hr.symm (Option.some_ne_none _)
theorem sn_ladd {X : Cxt} {P : Par} {n0 u0 y d pc : Nat} {lk : List Nat} {z : Int} {ops : List Op} {ls : LV} {st : List AV} {h : Hp} {cl : Nat → List AV → Hp → Rs} {k : List Op → LV → List AV → Hp → Rs} {r : Option AV × Hp}  (C : Cx X P y d n0) (hk : chkL y ((pc, .ladd, lk, z) :: ops) = true) (hr : stp cl k d y (.ladd) lk z ops ls st h = some r) (ih : ∀ o l s, k o l s h = some r → chkL y o = true → GoW X P n0 u0 y o l s h) : GoW X P n0 u0 y ((pc, .ladd, lk, z) :: ops) ls st h := by
  obtain ⟨p, l, e, R, s, m, args, below, meth, c, Q⟩ := X
  obtain ⟨hx, hb, hml, hown, hts, hin, hG, hbs, hfr, hlo⟩ := C
  obtain ⟨hd, hpc, hlk, hck⟩ := chk_next hk rfl
  unfold stp at hr
  dsimp only at hr
  split at hr
  · intro H locs lsA hR hS hL
    have w := ih _ _ _ hr hck H locs lsA hR hS hL
    rw [hpc] at w
    exact lv_ladd hx hb hd w
  · exact absurd hr.symm (Option.some_ne_none _)
theorem sn_lsub {X : Cxt} {P : Par} {n0 u0 y d pc : Nat} {lk : List Nat} {z : Int} {ops : List Op} {ls : LV} {st : List AV} {h : Hp} {cl : Nat → List AV → Hp → Rs} {k : List Op → LV → List AV → Hp → Rs} {r : Option AV × Hp}  (C : Cx X P y d n0) (hk : chkL y ((pc, .lsub, lk, z) :: ops) = true) (hr : stp cl k d y (.lsub) lk z ops ls st h = some r) (ih : ∀ o l s, k o l s h = some r → chkL y o = true → GoW X P n0 u0 y o l s h) : GoW X P n0 u0 y ((pc, .lsub, lk, z) :: ops) ls st h := by
  obtain ⟨p, l, e, R, s, m, args, below, meth, c, Q⟩ := X
  obtain ⟨hx, hb, hml, hown, hts, hin, hG, hbs, hfr, hlo⟩ := C
  obtain ⟨hd, hpc, hlk, hck⟩ := chk_next hk rfl
  unfold stp at hr
  dsimp only at hr
  split at hr
  · intro H locs lsA hR hS hL
    have w := ih _ _ _ hr hck H locs lsA hR hS hL
    rw [hpc] at w
    exact lv_lsub hx hb hd w
  · exact absurd hr.symm (Option.some_ne_none _)
theorem sn_lmul {X : Cxt} {P : Par} {n0 u0 y d pc : Nat} {lk : List Nat} {z : Int} {ops : List Op} {ls : LV} {st : List AV} {h : Hp} {cl : Nat → List AV → Hp → Rs} {k : List Op → LV → List AV → Hp → Rs} {r : Option AV × Hp}  (C : Cx X P y d n0) (hk : chkL y ((pc, .lmul, lk, z) :: ops) = true) (hr : stp cl k d y (.lmul) lk z ops ls st h = some r) (ih : ∀ o l s, k o l s h = some r → chkL y o = true → GoW X P n0 u0 y o l s h) : GoW X P n0 u0 y ((pc, .lmul, lk, z) :: ops) ls st h := by
  obtain ⟨p, l, e, R, s, m, args, below, meth, c, Q⟩ := X
  obtain ⟨hx, hb, hml, hown, hts, hin, hG, hbs, hfr, hlo⟩ := C
  obtain ⟨hd, hpc, hlk, hck⟩ := chk_next hk rfl
  unfold stp at hr
  dsimp only at hr
  split at hr
  · intro H locs lsA hR hS hL
    have w := ih _ _ _ hr hck H locs lsA hR hS hL
    rw [hpc] at w
    exact lv_lmul hx hb hd w
  · exact absurd hr.symm (Option.some_ne_none _)
theorem sn_land {X : Cxt} {P : Par} {n0 u0 y d pc : Nat} {lk : List Nat} {z : Int} {ops : List Op} {ls : LV} {st : List AV} {h : Hp} {cl : Nat → List AV → Hp → Rs} {k : List Op → LV → List AV → Hp → Rs} {r : Option AV × Hp}  (C : Cx X P y d n0) (hk : chkL y ((pc, .land, lk, z) :: ops) = true) (hr : stp cl k d y (.land) lk z ops ls st h = some r) (ih : ∀ o l s, k o l s h = some r → chkL y o = true → GoW X P n0 u0 y o l s h) : GoW X P n0 u0 y ((pc, .land, lk, z) :: ops) ls st h := by
  obtain ⟨p, l, e, R, s, m, args, below, meth, c, Q⟩ := X
  obtain ⟨hx, hb, hml, hown, hts, hin, hG, hbs, hfr, hlo⟩ := C
  obtain ⟨hd, hpc, hlk, hck⟩ := chk_next hk rfl
  unfold stp at hr
  dsimp only at hr
  split at hr
  · intro H locs lsA hR hS hL
    have w := ih _ _ _ hr hck H locs lsA hR hS hL
    rw [hpc] at w
    exact lv_land hx hb hd w
  · exact absurd hr.symm (Option.some_ne_none _)
theorem sn_lor {X : Cxt} {P : Par} {n0 u0 y d pc : Nat} {lk : List Nat} {z : Int} {ops : List Op} {ls : LV} {st : List AV} {h : Hp} {cl : Nat → List AV → Hp → Rs} {k : List Op → LV → List AV → Hp → Rs} {r : Option AV × Hp}  (C : Cx X P y d n0) (hk : chkL y ((pc, .lor, lk, z) :: ops) = true) (hr : stp cl k d y (.lor) lk z ops ls st h = some r) (ih : ∀ o l s, k o l s h = some r → chkL y o = true → GoW X P n0 u0 y o l s h) : GoW X P n0 u0 y ((pc, .lor, lk, z) :: ops) ls st h := by
  obtain ⟨p, l, e, R, s, m, args, below, meth, c, Q⟩ := X
  obtain ⟨hx, hb, hml, hown, hts, hin, hG, hbs, hfr, hlo⟩ := C
  obtain ⟨hd, hpc, hlk, hck⟩ := chk_next hk rfl
  unfold stp at hr
  dsimp only at hr
  split at hr
  · intro H locs lsA hR hS hL
    have w := ih _ _ _ hr hck H locs lsA hR hS hL
    rw [hpc] at w
    exact lv_lor hx hb hd w
  · exact absurd hr.symm (Option.some_ne_none _)
theorem sn_lxor {X : Cxt} {P : Par} {n0 u0 y d pc : Nat} {lk : List Nat} {z : Int} {ops : List Op} {ls : LV} {st : List AV} {h : Hp} {cl : Nat → List AV → Hp → Rs} {k : List Op → LV → List AV → Hp → Rs} {r : Option AV × Hp}  (C : Cx X P y d n0) (hk : chkL y ((pc, .lxor, lk, z) :: ops) = true) (hr : stp cl k d y (.lxor) lk z ops ls st h = some r) (ih : ∀ o l s, k o l s h = some r → chkL y o = true → GoW X P n0 u0 y o l s h) : GoW X P n0 u0 y ((pc, .lxor, lk, z) :: ops) ls st h := by
  obtain ⟨p, l, e, R, s, m, args, below, meth, c, Q⟩ := X
  obtain ⟨hx, hb, hml, hown, hts, hin, hG, hbs, hfr, hlo⟩ := C
  obtain ⟨hd, hpc, hlk, hck⟩ := chk_next hk rfl
  unfold stp at hr
  dsimp only at hr
  split at hr
  · intro H locs lsA hR hS hL
    have w := ih _ _ _ hr hck H locs lsA hR hS hL
    rw [hpc] at w
    exact lv_lxor hx hb hd w
  · exact absurd hr.symm (Option.some_ne_none _)
theorem sn_lshl {X : Cxt} {P : Par} {n0 u0 y d pc : Nat} {lk : List Nat} {z : Int} {ops : List Op} {ls : LV} {st : List AV} {h : Hp} {cl : Nat → List AV → Hp → Rs} {k : List Op → LV → List AV → Hp → Rs} {r : Option AV × Hp}  (C : Cx X P y d n0) (hk : chkL y ((pc, .lshl, lk, z) :: ops) = true) (hr : stp cl k d y (.lshl) lk z ops ls st h = some r) (ih : ∀ o l s, k o l s h = some r → chkL y o = true → GoW X P n0 u0 y o l s h) : GoW X P n0 u0 y ((pc, .lshl, lk, z) :: ops) ls st h := by
  obtain ⟨p, l, e, R, s, m, args, below, meth, c, Q⟩ := X
  obtain ⟨hx, hb, hml, hown, hts, hin, hG, hbs, hfr, hlo⟩ := C
  obtain ⟨hd, hpc, hlk, hck⟩ := chk_next hk rfl
  unfold stp at hr
  dsimp only at hr
  split at hr
  · intro H locs lsA hR hS hL
    have w := ih _ _ _ hr hck H locs lsA hR hS hL
    rw [hpc] at w
    exact lv_lshl hx hb hd rfl w
  · exact absurd hr.symm (Option.some_ne_none _)
theorem sn_lshr {X : Cxt} {P : Par} {n0 u0 y d pc : Nat} {lk : List Nat} {z : Int} {ops : List Op} {ls : LV} {st : List AV} {h : Hp} {cl : Nat → List AV → Hp → Rs} {k : List Op → LV → List AV → Hp → Rs} {r : Option AV × Hp}  (C : Cx X P y d n0) (hk : chkL y ((pc, .lshr, lk, z) :: ops) = true) (hr : stp cl k d y (.lshr) lk z ops ls st h = some r) (ih : ∀ o l s, k o l s h = some r → chkL y o = true → GoW X P n0 u0 y o l s h) : GoW X P n0 u0 y ((pc, .lshr, lk, z) :: ops) ls st h := by
  obtain ⟨p, l, e, R, s, m, args, below, meth, c, Q⟩ := X
  obtain ⟨hx, hb, hml, hown, hts, hin, hG, hbs, hfr, hlo⟩ := C
  obtain ⟨hd, hpc, hlk, hck⟩ := chk_next hk rfl
  unfold stp at hr
  dsimp only at hr
  split at hr
  · intro H locs lsA hR hS hL
    have w := ih _ _ _ hr hck H locs lsA hR hS hL
    rw [hpc] at w
    exact lv_lshr hx hb hd rfl w
  · exact absurd hr.symm (Option.some_ne_none _)
theorem sn_i2l {X : Cxt} {P : Par} {n0 u0 y d pc : Nat} {lk : List Nat} {z : Int} {ops : List Op} {ls : LV} {st : List AV} {h : Hp} {cl : Nat → List AV → Hp → Rs} {k : List Op → LV → List AV → Hp → Rs} {r : Option AV × Hp}  (C : Cx X P y d n0) (hk : chkL y ((pc, .i2l, lk, z) :: ops) = true) (hr : stp cl k d y (.i2l) lk z ops ls st h = some r) (ih : ∀ o l s, k o l s h = some r → chkL y o = true → GoW X P n0 u0 y o l s h) : GoW X P n0 u0 y ((pc, .i2l, lk, z) :: ops) ls st h := by
  obtain ⟨p, l, e, R, s, m, args, below, meth, c, Q⟩ := X
  obtain ⟨hx, hb, hml, hown, hts, hin, hG, hbs, hfr, hlo⟩ := C
  obtain ⟨hd, hpc, hlk, hck⟩ := chk_next hk rfl
  unfold stp at hr
  dsimp only at hr
  split at hr
  · intro H locs lsA hR hS hL
    have w := ih _ _ _ hr hck H locs lsA hR hS hL
    rw [hpc] at w
    exact lv_i2l hx hb hd rfl w
  · exact absurd hr.symm (Option.some_ne_none _)
theorem sn_l2i {X : Cxt} {P : Par} {n0 u0 y d pc : Nat} {lk : List Nat} {z : Int} {ops : List Op} {ls : LV} {st : List AV} {h : Hp} {cl : Nat → List AV → Hp → Rs} {k : List Op → LV → List AV → Hp → Rs} {r : Option AV × Hp}  (C : Cx X P y d n0) (hk : chkL y ((pc, .l2i, lk, z) :: ops) = true) (hr : stp cl k d y (.l2i) lk z ops ls st h = some r) (ih : ∀ o l s, k o l s h = some r → chkL y o = true → GoW X P n0 u0 y o l s h) : GoW X P n0 u0 y ((pc, .l2i, lk, z) :: ops) ls st h := by
  obtain ⟨p, l, e, R, s, m, args, below, meth, c, Q⟩ := X
  obtain ⟨hx, hb, hml, hown, hts, hin, hG, hbs, hfr, hlo⟩ := C
  obtain ⟨hd, hpc, hlk, hck⟩ := chk_next hk rfl
  unfold stp at hr
  dsimp only at hr
  split at hr
  · intro H locs lsA hR hS hL
    have w := ih _ _ _ hr hck H locs lsA hR hS hL
    rw [hpc] at w
    exact lv_l2i hx hb hd rfl w
  · exact absurd hr.symm (Option.some_ne_none _)
theorem sn_i2b {X : Cxt} {P : Par} {n0 u0 y d pc : Nat} {lk : List Nat} {z : Int} {ops : List Op} {ls : LV} {st : List AV} {h : Hp} {cl : Nat → List AV → Hp → Rs} {k : List Op → LV → List AV → Hp → Rs} {r : Option AV × Hp}  (C : Cx X P y d n0) (hk : chkL y ((pc, .i2b, lk, z) :: ops) = true) (hr : stp cl k d y (.i2b) lk z ops ls st h = some r) (ih : ∀ o l s, k o l s h = some r → chkL y o = true → GoW X P n0 u0 y o l s h) : GoW X P n0 u0 y ((pc, .i2b, lk, z) :: ops) ls st h := by
  obtain ⟨p, l, e, R, s, m, args, below, meth, c, Q⟩ := X
  obtain ⟨hx, hb, hml, hown, hts, hin, hG, hbs, hfr, hlo⟩ := C
  obtain ⟨hd, hpc, hlk, hck⟩ := chk_next hk rfl
  unfold stp at hr
  dsimp only at hr
  split at hr
  · intro H locs lsA hR hS hL
    have w := ih _ _ _ hr hck H locs lsA hR hS hL
    rw [hpc] at w
    exact lv_i2b hx hb hd rfl w
  · exact absurd hr.symm (Option.some_ne_none _)
theorem sn_i2c {X : Cxt} {P : Par} {n0 u0 y d pc : Nat} {lk : List Nat} {z : Int} {ops : List Op} {ls : LV} {st : List AV} {h : Hp} {cl : Nat → List AV → Hp → Rs} {k : List Op → LV → List AV → Hp → Rs} {r : Option AV × Hp}  (C : Cx X P y d n0) (hk : chkL y ((pc, .i2c, lk, z) :: ops) = true) (hr : stp cl k d y (.i2c) lk z ops ls st h = some r) (ih : ∀ o l s, k o l s h = some r → chkL y o = true → GoW X P n0 u0 y o l s h) : GoW X P n0 u0 y ((pc, .i2c, lk, z) :: ops) ls st h := by
  obtain ⟨p, l, e, R, s, m, args, below, meth, c, Q⟩ := X
  obtain ⟨hx, hb, hml, hown, hts, hin, hG, hbs, hfr, hlo⟩ := C
  obtain ⟨hd, hpc, hlk, hck⟩ := chk_next hk rfl
  unfold stp at hr
  dsimp only at hr
  split at hr
  · intro H locs lsA hR hS hL
    have w := ih _ _ _ hr hck H locs lsA hR hS hL
    rw [hpc] at w
    exact lv_i2c hx hb hd rfl w
  · exact absurd hr.symm (Option.some_ne_none _)
theorem sn_lcmp {X : Cxt} {P : Par} {n0 u0 y d pc : Nat} {lk : List Nat} {z : Int} {ops : List Op} {ls : LV} {st : List AV} {h : Hp} {cl : Nat → List AV → Hp → Rs} {k : List Op → LV → List AV → Hp → Rs} {r : Option AV × Hp}  (C : Cx X P y d n0) (hk : chkL y ((pc, .lcmp, lk, z) :: ops) = true) (hr : stp cl k d y (.lcmp) lk z ops ls st h = some r) (ih : ∀ o l s, k o l s h = some r → chkL y o = true → GoW X P n0 u0 y o l s h) : GoW X P n0 u0 y ((pc, .lcmp, lk, z) :: ops) ls st h := by
  obtain ⟨p, l, e, R, s, m, args, below, meth, c, Q⟩ := X
  obtain ⟨hx, hb, hml, hown, hts, hin, hG, hbs, hfr, hlo⟩ := C
  obtain ⟨hd, hpc, hlk, hck⟩ := chk_next hk rfl
  unfold stp at hr
  dsimp only at hr
  split at hr
  · intro H locs lsA hR hS hL
    have w := ih _ _ _ hr hck H locs lsA hR hS hL
    rw [hpc] at w
    exact W.lcmp hx hb hd w
  · exact absurd hr.symm (Option.some_ne_none _)
theorem sn_idiv {X : Cxt} {P : Par} {n0 u0 y d pc : Nat} {lk : List Nat} {z : Int} {ops : List Op} {ls : LV} {st : List AV} {h : Hp} {cl : Nat → List AV → Hp → Rs} {k : List Op → LV → List AV → Hp → Rs} {r : Option AV × Hp}  (C : Cx X P y d n0) (hk : chkL y ((pc, .idiv, lk, z) :: ops) = true) (hr : stp cl k d y (.idiv) lk z ops ls st h = some r) (ih : ∀ o l s, k o l s h = some r → chkL y o = true → GoW X P n0 u0 y o l s h) : GoW X P n0 u0 y ((pc, .idiv, lk, z) :: ops) ls st h := by
  obtain ⟨p, l, e, R, s, m, args, below, meth, c, Q⟩ := X
  obtain ⟨hx, hb, hml, hown, hts, hin, hG, hbs, hfr, hlo⟩ := C
  obtain ⟨hd, hpc, hlk, hck⟩ := chk_next hk rfl
  unfold stp at hr
  dsimp only at hr
  split at hr
  · obtain ⟨hne, hr⟩ := gd_some hr
    intro H locs lsA hR hS hL
    have w := ih _ _ _ hr hck H locs lsA hR hS hL
    rw [hpc] at w
    exact lv_idiv hx hb hd hne w
  · exact absurd hr.symm (Option.some_ne_none _)
theorem sn_irem {X : Cxt} {P : Par} {n0 u0 y d pc : Nat} {lk : List Nat} {z : Int} {ops : List Op} {ls : LV} {st : List AV} {h : Hp} {cl : Nat → List AV → Hp → Rs} {k : List Op → LV → List AV → Hp → Rs} {r : Option AV × Hp}  (C : Cx X P y d n0) (hk : chkL y ((pc, .irem, lk, z) :: ops) = true) (hr : stp cl k d y (.irem) lk z ops ls st h = some r) (ih : ∀ o l s, k o l s h = some r → chkL y o = true → GoW X P n0 u0 y o l s h) : GoW X P n0 u0 y ((pc, .irem, lk, z) :: ops) ls st h := by
  obtain ⟨p, l, e, R, s, m, args, below, meth, c, Q⟩ := X
  obtain ⟨hx, hb, hml, hown, hts, hin, hG, hbs, hfr, hlo⟩ := C
  obtain ⟨hd, hpc, hlk, hck⟩ := chk_next hk rfl
  unfold stp at hr
  dsimp only at hr
  split at hr
  · obtain ⟨hne, hr⟩ := gd_some hr
    intro H locs lsA hR hS hL
    have w := ih _ _ _ hr hck H locs lsA hR hS hL
    rw [hpc] at w
    exact lv_irem hx hb hd hne w
  · exact absurd hr.symm (Option.some_ne_none _)
theorem sn_iloadN {X : Cxt} {P : Par} {n0 u0 y d pc : Nat} {lk : List Nat} {z : Int} {ops : List Op} {ls : LV} {st : List AV} {h : Hp} {cl : Nat → List AV → Hp → Rs} {k : List Op → LV → List AV → Hp → Rs} {r : Option AV × Hp} {j : Fin 4} (C : Cx X P y d n0) (hk : chkL y ((pc, .iload_n j, lk, z) :: ops) = true) (hr : stp cl k d y (.iload_n j) lk z ops ls st h = some r) (ih : ∀ o l s, k o l s h = some r → chkL y o = true → GoW X P n0 u0 y o l s h) : GoW X P n0 u0 y ((pc, .iload_n j, lk, z) :: ops) ls st h := by
  obtain ⟨p, l, e, R, s, m, args, below, meth, c, Q⟩ := X
  obtain ⟨hx, hb, hml, hown, hts, hin, hG, hbs, hfr, hlo⟩ := C
  obtain ⟨hd, hpc, hlk, hck⟩ := chk_next hk rfl
  unfold stp at hr
  dsimp only at hr
  split at hr
  · rename_i heq
    intro H locs lsA hR hS hL
    have w := ih _ _ _ hr hck H locs lsA hR hS hL
    rw [hpc] at w
    exact lv_iload_n hx hb hd rfl (hL.at heq) w
  · exact absurd hr.symm (Option.some_ne_none _)
theorem sn_iload {X : Cxt} {P : Par} {n0 u0 y d pc : Nat} {lk : List Nat} {z : Int} {ops : List Op} {ls : LV} {st : List AV} {h : Hp} {cl : Nat → List AV → Hp → Rs} {k : List Op → LV → List AV → Hp → Rs} {r : Option AV × Hp} {j : Nat} (C : Cx X P y d n0) (hk : chkL y ((pc, .iload j, lk, z) :: ops) = true) (hr : stp cl k d y (.iload j) lk z ops ls st h = some r) (ih : ∀ o l s, k o l s h = some r → chkL y o = true → GoW X P n0 u0 y o l s h) : GoW X P n0 u0 y ((pc, .iload j, lk, z) :: ops) ls st h := by
  obtain ⟨p, l, e, R, s, m, args, below, meth, c, Q⟩ := X
  obtain ⟨hx, hb, hml, hown, hts, hin, hG, hbs, hfr, hlo⟩ := C
  obtain ⟨hd, hpc, hlk, hck⟩ := chk_next hk rfl
  unfold stp at hr
  dsimp only at hr
  split at hr
  · rename_i heq
    intro H locs lsA hR hS hL
    have w := ih _ _ _ hr hck H locs lsA hR hS hL
    rw [hpc] at w
    exact lv_iload hx hb hd (hL.at heq) w
  · exact absurd hr.symm (Option.some_ne_none _)
theorem sn_lloadN {X : Cxt} {P : Par} {n0 u0 y d pc : Nat} {lk : List Nat} {z : Int} {ops : List Op} {ls : LV} {st : List AV} {h : Hp} {cl : Nat → List AV → Hp → Rs} {k : List Op → LV → List AV → Hp → Rs} {r : Option AV × Hp} {j : Fin 4} (C : Cx X P y d n0) (hk : chkL y ((pc, .lload_n j, lk, z) :: ops) = true) (hr : stp cl k d y (.lload_n j) lk z ops ls st h = some r) (ih : ∀ o l s, k o l s h = some r → chkL y o = true → GoW X P n0 u0 y o l s h) : GoW X P n0 u0 y ((pc, .lload_n j, lk, z) :: ops) ls st h := by
  obtain ⟨p, l, e, R, s, m, args, below, meth, c, Q⟩ := X
  obtain ⟨hx, hb, hml, hown, hts, hin, hG, hbs, hfr, hlo⟩ := C
  obtain ⟨hd, hpc, hlk, hck⟩ := chk_next hk rfl
  unfold stp at hr
  dsimp only at hr
  split at hr
  · rename_i heq
    intro H locs lsA hR hS hL
    have w := ih _ _ _ hr hck H locs lsA hR hS hL
    rw [hpc] at w
    exact lv_lload_n hx hb hd rfl (hL.at heq) w
  · exact absurd hr.symm (Option.some_ne_none _)
theorem sn_lload {X : Cxt} {P : Par} {n0 u0 y d pc : Nat} {lk : List Nat} {z : Int} {ops : List Op} {ls : LV} {st : List AV} {h : Hp} {cl : Nat → List AV → Hp → Rs} {k : List Op → LV → List AV → Hp → Rs} {r : Option AV × Hp} {j : Nat} (C : Cx X P y d n0) (hk : chkL y ((pc, .lload j, lk, z) :: ops) = true) (hr : stp cl k d y (.lload j) lk z ops ls st h = some r) (ih : ∀ o l s, k o l s h = some r → chkL y o = true → GoW X P n0 u0 y o l s h) : GoW X P n0 u0 y ((pc, .lload j, lk, z) :: ops) ls st h := by
  obtain ⟨p, l, e, R, s, m, args, below, meth, c, Q⟩ := X
  obtain ⟨hx, hb, hml, hown, hts, hin, hG, hbs, hfr, hlo⟩ := C
  obtain ⟨hd, hpc, hlk, hck⟩ := chk_next hk rfl
  unfold stp at hr
  dsimp only at hr
  split at hr
  · rename_i heq
    intro H locs lsA hR hS hL
    have w := ih _ _ _ hr hck H locs lsA hR hS hL
    rw [hpc] at w
    exact lv_lload hx hb hd (hL.at heq) w
  · exact absurd hr.symm (Option.some_ne_none _)
theorem sn_aloadN {X : Cxt} {P : Par} {n0 u0 y d pc : Nat} {lk : List Nat} {z : Int} {ops : List Op} {ls : LV} {st : List AV} {h : Hp} {cl : Nat → List AV → Hp → Rs} {k : List Op → LV → List AV → Hp → Rs} {r : Option AV × Hp} {j : Fin 4} (C : Cx X P y d n0) (hk : chkL y ((pc, .aload_n j, lk, z) :: ops) = true) (hr : stp cl k d y (.aload_n j) lk z ops ls st h = some r) (ih : ∀ o l s, k o l s h = some r → chkL y o = true → GoW X P n0 u0 y o l s h) : GoW X P n0 u0 y ((pc, .aload_n j, lk, z) :: ops) ls st h := by
  obtain ⟨p, l, e, R, s, m, args, below, meth, c, Q⟩ := X
  obtain ⟨hx, hb, hml, hown, hts, hin, hG, hbs, hfr, hlo⟩ := C
  obtain ⟨hd, hpc, hlk, hck⟩ := chk_next hk rfl
  unfold stp at hr
  dsimp only at hr
  split at hr
  · rename_i x heq
    intro H locs lsA hR hS hL
    have w := ih _ _ _ hr hck H locs lsA hR hS hL
    rw [hpc] at w
    cases x with
    | none => exact lv_aload_nN hx hb hd rfl (hL.at heq) w
    | some a => exact lv_aload_n hx hb hd rfl (hL.at heq) w
  · exact absurd hr.symm (Option.some_ne_none _)
theorem sn_aload {X : Cxt} {P : Par} {n0 u0 y d pc : Nat} {lk : List Nat} {z : Int} {ops : List Op} {ls : LV} {st : List AV} {h : Hp} {cl : Nat → List AV → Hp → Rs} {k : List Op → LV → List AV → Hp → Rs} {r : Option AV × Hp} {j : Nat} (C : Cx X P y d n0) (hk : chkL y ((pc, .aload j, lk, z) :: ops) = true) (hr : stp cl k d y (.aload j) lk z ops ls st h = some r) (ih : ∀ o l s, k o l s h = some r → chkL y o = true → GoW X P n0 u0 y o l s h) : GoW X P n0 u0 y ((pc, .aload j, lk, z) :: ops) ls st h := by
  obtain ⟨p, l, e, R, s, m, args, below, meth, c, Q⟩ := X
  obtain ⟨hx, hb, hml, hown, hts, hin, hG, hbs, hfr, hlo⟩ := C
  obtain ⟨hd, hpc, hlk, hck⟩ := chk_next hk rfl
  unfold stp at hr
  dsimp only at hr
  split at hr
  · rename_i x heq
    intro H locs lsA hR hS hL
    have w := ih _ _ _ hr hck H locs lsA hR hS hL
    rw [hpc] at w
    cases x with
    | none => exact lv_aloadN hx hb hd (hL.at heq) w
    | some a => exact lv_aload hx hb hd (hL.at heq) w
  · exact absurd hr.symm (Option.some_ne_none _)
theorem sn_istoreN {X : Cxt} {P : Par} {n0 u0 y d pc : Nat} {lk : List Nat} {z : Int} {ops : List Op} {ls : LV} {st : List AV} {h : Hp} {cl : Nat → List AV → Hp → Rs} {k : List Op → LV → List AV → Hp → Rs} {r : Option AV × Hp} {j : Fin 4} (C : Cx X P y d n0) (hk : chkL y ((pc, .istore_n j, lk, z) :: ops) = true) (hr : stp cl k d y (.istore_n j) lk z ops ls st h = some r) (ih : ∀ o l s, k o l s h = some r → chkL y o = true → GoW X P n0 u0 y o l s h) : GoW X P n0 u0 y ((pc, .istore_n j, lk, z) :: ops) ls st h := by
  obtain ⟨p, l, e, R, s, m, args, below, meth, c, Q⟩ := X
  obtain ⟨hx, hb, hml, hown, hts, hin, hG, hbs, hfr, hlo⟩ := C
  obtain ⟨hd, hpc, hlk, hck⟩ := chk_next hk rfl
  unfold stp at hr
  dsimp only at hr
  have hj := of_decide_eq_true hlk
  split at hr
  · intro H locs lsA hR hS hL
    refine lv_istore_n hx hb hd rfl hL.2 hj rfl (fun ls2 h2 => ?_)
    have w := ih _ _ _ hr hck H locs ls2 hR hS (lrel.st (v := .inl _) hL.1 h2)
    rw [hpc] at w
    exact w
  · exact absurd hr.symm (Option.some_ne_none _)
theorem sn_lstoreN {X : Cxt} {P : Par} {n0 u0 y d pc : Nat} {lk : List Nat} {z : Int} {ops : List Op} {ls : LV} {st : List AV} {h : Hp} {cl : Nat → List AV → Hp → Rs} {k : List Op → LV → List AV → Hp → Rs} {r : Option AV × Hp} {j : Fin 4} (C : Cx X P y d n0) (hk : chkL y ((pc, .lstore_n j, lk, z) :: ops) = true) (hr : stp cl k d y (.lstore_n j) lk z ops ls st h = some r) (ih : ∀ o l s, k o l s h = some r → chkL y o = true → GoW X P n0 u0 y o l s h) : GoW X P n0 u0 y ((pc, .lstore_n j, lk, z) :: ops) ls st h := by
  obtain ⟨p, l, e, R, s, m, args, below, meth, c, Q⟩ := X
  obtain ⟨hx, hb, hml, hown, hts, hin, hG, hbs, hfr, hlo⟩ := C
  obtain ⟨hd, hpc, hlk, hck⟩ := chk_next hk rfl
  unfold stp at hr
  dsimp only at hr
  have hj := of_decide_eq_true hlk
  split at hr
  · intro H locs lsA hR hS hL
    refine lv_lstore_n hx hb hd rfl hL.2 hj rfl (fun ls2 h2 => ?_)
    have w := ih _ _ _ hr hck H locs ls2 hR hS (lrel.stJ hL.1 hj h2)
    rw [hpc] at w
    exact w
  · exact absurd hr.symm (Option.some_ne_none _)
theorem sn_astoreN {X : Cxt} {P : Par} {n0 u0 y d pc : Nat} {lk : List Nat} {z : Int} {ops : List Op} {ls : LV} {st : List AV} {h : Hp} {cl : Nat → List AV → Hp → Rs} {k : List Op → LV → List AV → Hp → Rs} {r : Option AV × Hp} {j : Fin 4} (C : Cx X P y d n0) (hk : chkL y ((pc, .astore_n j, lk, z) :: ops) = true) (hr : stp cl k d y (.astore_n j) lk z ops ls st h = some r) (ih : ∀ o l s, k o l s h = some r → chkL y o = true → GoW X P n0 u0 y o l s h) : GoW X P n0 u0 y ((pc, .astore_n j, lk, z) :: ops) ls st h := by
  obtain ⟨p, l, e, R, s, m, args, below, meth, c, Q⟩ := X
  obtain ⟨hx, hb, hml, hown, hts, hin, hG, hbs, hfr, hlo⟩ := C
  obtain ⟨hd, hpc, hlk, hck⟩ := chk_next hk rfl
  unfold stp at hr
  dsimp only at hr
  have hj := of_decide_eq_true hlk
  split at hr
  · rename_i x _
    intro H locs lsA hR hS hL
    cases x with
    | none =>
      refine lv_astore_nN hx hb hd rfl hL.2 hj rfl (fun ls2 h2 => ?_)
      have w := ih _ _ _ hr hck H locs ls2 hR hS (lrel.st (v := .inr (.inr none)) hL.1 h2)
      rw [hpc] at w
      exact w
    | some a =>
      refine lv_astore_n hx hb hd rfl hL.2 hj rfl (fun ls2 h2 => ?_)
      have w := ih _ _ _ hr hck H locs ls2 hR hS (lrel.st (v := .inr (.inr (some a))) hL.1 h2)
      rw [hpc] at w
      exact w
  · exact absurd hr.symm (Option.some_ne_none _)
theorem sn_istore {X : Cxt} {P : Par} {n0 u0 y d pc : Nat} {lk : List Nat} {z : Int} {ops : List Op} {ls : LV} {st : List AV} {h : Hp} {cl : Nat → List AV → Hp → Rs} {k : List Op → LV → List AV → Hp → Rs} {r : Option AV × Hp} {j : Nat} (C : Cx X P y d n0) (hk : chkL y ((pc, .istore j, lk, z) :: ops) = true) (hr : stp cl k d y (.istore j) lk z ops ls st h = some r) (ih : ∀ o l s, k o l s h = some r → chkL y o = true → GoW X P n0 u0 y o l s h) : GoW X P n0 u0 y ((pc, .istore j, lk, z) :: ops) ls st h := by
  obtain ⟨p, l, e, R, s, m, args, below, meth, c, Q⟩ := X
  obtain ⟨hx, hb, hml, hown, hts, hin, hG, hbs, hfr, hlo⟩ := C
  obtain ⟨hd, hpc, hlk, hck⟩ := chk_next hk rfl
  unfold stp at hr
  dsimp only at hr
  have hj := of_decide_eq_true hlk
  split at hr
  · intro H locs lsA hR hS hL
    refine lv_istore hx hb hd hL.2 hj rfl (fun ls2 h2 => ?_)
    have w := ih _ _ _ hr hck H locs ls2 hR hS (lrel.st (v := .inl _) hL.1 h2)
    rw [hpc] at w
    exact w
  · exact absurd hr.symm (Option.some_ne_none _)
theorem sn_lstore {X : Cxt} {P : Par} {n0 u0 y d pc : Nat} {lk : List Nat} {z : Int} {ops : List Op} {ls : LV} {st : List AV} {h : Hp} {cl : Nat → List AV → Hp → Rs} {k : List Op → LV → List AV → Hp → Rs} {r : Option AV × Hp} {j : Nat} (C : Cx X P y d n0) (hk : chkL y ((pc, .lstore j, lk, z) :: ops) = true) (hr : stp cl k d y (.lstore j) lk z ops ls st h = some r) (ih : ∀ o l s, k o l s h = some r → chkL y o = true → GoW X P n0 u0 y o l s h) : GoW X P n0 u0 y ((pc, .lstore j, lk, z) :: ops) ls st h := by
  obtain ⟨p, l, e, R, s, m, args, below, meth, c, Q⟩ := X
  obtain ⟨hx, hb, hml, hown, hts, hin, hG, hbs, hfr, hlo⟩ := C
  obtain ⟨hd, hpc, hlk, hck⟩ := chk_next hk rfl
  unfold stp at hr
  dsimp only at hr
  have hj := of_decide_eq_true hlk
  split at hr
  · intro H locs lsA hR hS hL
    refine lv_lstore hx hb hd hL.2 hj rfl (fun ls2 h2 => ?_)
    have w := ih _ _ _ hr hck H locs ls2 hR hS (lrel.stJ hL.1 hj h2)
    rw [hpc] at w
    exact w
  · exact absurd hr.symm (Option.some_ne_none _)
theorem sn_astore {X : Cxt} {P : Par} {n0 u0 y d pc : Nat} {lk : List Nat} {z : Int} {ops : List Op} {ls : LV} {st : List AV} {h : Hp} {cl : Nat → List AV → Hp → Rs} {k : List Op → LV → List AV → Hp → Rs} {r : Option AV × Hp} {j : Nat} (C : Cx X P y d n0) (hk : chkL y ((pc, .astore j, lk, z) :: ops) = true) (hr : stp cl k d y (.astore j) lk z ops ls st h = some r) (ih : ∀ o l s, k o l s h = some r → chkL y o = true → GoW X P n0 u0 y o l s h) : GoW X P n0 u0 y ((pc, .astore j, lk, z) :: ops) ls st h := by
  obtain ⟨p, l, e, R, s, m, args, below, meth, c, Q⟩ := X
  obtain ⟨hx, hb, hml, hown, hts, hin, hG, hbs, hfr, hlo⟩ := C
  obtain ⟨hd, hpc, hlk, hck⟩ := chk_next hk rfl
  unfold stp at hr
  dsimp only at hr
  have hj := of_decide_eq_true hlk
  split at hr
  · rename_i x _
    intro H locs lsA hR hS hL
    cases x with
    | none =>
      refine lv_astoreN hx hb hd hL.2 hj rfl (fun ls2 h2 => ?_)
      have w := ih _ _ _ hr hck H locs ls2 hR hS (lrel.st (v := .inr (.inr none)) hL.1 h2)
      rw [hpc] at w
      exact w
    | some a =>
      refine lv_astore hx hb hd hL.2 hj rfl (fun ls2 h2 => ?_)
      have w := ih _ _ _ hr hck H locs ls2 hR hS (lrel.st (v := .inr (.inr (some a))) hL.1 h2)
      rw [hpc] at w
      exact w
  · exact absurd hr.symm (Option.some_ne_none _)
theorem sn_iinc {X : Cxt} {P : Par} {n0 u0 y d pc : Nat} {lk : List Nat} {z : Int} {ops : List Op} {ls : LV} {st : List AV} {h : Hp} {cl : Nat → List AV → Hp → Rs} {k : List Op → LV → List AV → Hp → Rs} {r : Option AV × Hp} {j : Nat} {v : Int} (C : Cx X P y d n0) (hk : chkL y ((pc, .iinc j v, lk, z) :: ops) = true) (hr : stp cl k d y (.iinc j v) lk z ops ls st h = some r) (ih : ∀ o l s, k o l s h = some r → chkL y o = true → GoW X P n0 u0 y o l s h) : GoW X P n0 u0 y ((pc, .iinc j v, lk, z) :: ops) ls st h := by
  obtain ⟨p, l, e, R, s, m, args, below, meth, c, Q⟩ := X
  obtain ⟨hx, hb, hml, hown, hts, hin, hG, hbs, hfr, hlo⟩ := C
  obtain ⟨hd, hpc, hlk, hck⟩ := chk_next hk rfl
  unfold stp at hr
  dsimp only at hr
  have hj := of_decide_eq_true hlk
  split at hr
  · rename_i x heq
    intro H locs lsA hR hS hL
    obtain ⟨q, hq⟩ := List.getElem?_of_mem ((lvl_mem (g := al P.1 P.2.1) ls 0 _).mpr ⟨j, _, heq, rfl⟩)
    rw [Nat.zero_add] at hq
    refine lv_iinc hx hb hd hL.2 hq rfl hj rfl (fun ls2 h2 => ?_)
    have w := ih _ _ _ hr hck H locs ls2 hR hS (lrel.st (v := .inl _) hL.1 h2)
    rw [hpc] at w
    exact w
  · exact absurd hr.symm (Option.some_ne_none _)
theorem sn_dup {X : Cxt} {P : Par} {n0 u0 y d pc : Nat} {lk : List Nat} {z : Int} {ops : List Op} {ls : LV} {st : List AV} {h : Hp} {cl : Nat → List AV → Hp → Rs} {k : List Op → LV → List AV → Hp → Rs} {r : Option AV × Hp}  (C : Cx X P y d n0) (hk : chkL y ((pc, .dup, lk, z) :: ops) = true) (hr : stp cl k d y (.dup) lk z ops ls st h = some r) (ih : ∀ o l s, k o l s h = some r → chkL y o = true → GoW X P n0 u0 y o l s h) : GoW X P n0 u0 y ((pc, .dup, lk, z) :: ops) ls st h := by
  obtain ⟨p, l, e, R, s, m, args, below, meth, c, Q⟩ := X
  obtain ⟨hx, hb, hml, hown, hts, hin, hG, hbs, hfr, hlo⟩ := C
  obtain ⟨hd, hpc, hlk, hck⟩ := chk_next hk rfl
  unfold stp at hr
  dsimp only at hr
  split at hr
  · intro H locs lsA hR hS hL
    have w := ih _ _ _ hr hck H locs lsA hR hS hL
    rw [hpc] at w
    exact lv_dup hx hb hd rfl w
  · rename_i x _
    intro H locs lsA hR hS hL
    have w := ih _ _ _ hr hck H locs lsA hR hS hL
    rw [hpc] at w
    exact lv_dup (va := va_rf (x.map _)) hx hb hd (by cases x <;> rfl) w
  · exact absurd hr.symm (Option.some_ne_none _)
theorem sn_pop {X : Cxt} {P : Par} {n0 u0 y d pc : Nat} {lk : List Nat} {z : Int} {ops : List Op} {ls : LV} {st : List AV} {h : Hp} {cl : Nat → List AV → Hp → Rs} {k : List Op → LV → List AV → Hp → Rs} {r : Option AV × Hp}  (C : Cx X P y d n0) (hk : chkL y ((pc, .pop, lk, z) :: ops) = true) (hr : stp cl k d y (.pop) lk z ops ls st h = some r) (ih : ∀ o l s, k o l s h = some r → chkL y o = true → GoW X P n0 u0 y o l s h) : GoW X P n0 u0 y ((pc, .pop, lk, z) :: ops) ls st h := by
  obtain ⟨p, l, e, R, s, m, args, below, meth, c, Q⟩ := X
  obtain ⟨hx, hb, hml, hown, hts, hin, hG, hbs, hfr, hlo⟩ := C
  obtain ⟨hd, hpc, hlk, hck⟩ := chk_next hk rfl
  unfold stp at hr
  dsimp only at hr
  split at hr
  · intro H locs lsA hR hS hL
    have w := ih _ _ _ hr hck H locs lsA hR hS hL
    rw [hpc] at w
    exact lv_pop hx hb hd rfl w
  · rename_i x _
    intro H locs lsA hR hS hL
    have w := ih _ _ _ hr hck H locs lsA hR hS hL
    rw [hpc] at w
    exact lv_pop (va := va_rf (x.map _)) hx hb hd (by cases x <;> rfl) w
  · exact absurd hr.symm (Option.some_ne_none _)
theorem sn_dup2 {X : Cxt} {P : Par} {n0 u0 y d pc : Nat} {lk : List Nat} {z : Int} {ops : List Op} {ls : LV} {st : List AV} {h : Hp} {cl : Nat → List AV → Hp → Rs} {k : List Op → LV → List AV → Hp → Rs} {r : Option AV × Hp}  (C : Cx X P y d n0) (hk : chkL y ((pc, .dup2, lk, z) :: ops) = true) (hr : stp cl k d y (.dup2) lk z ops ls st h = some r) (ih : ∀ o l s, k o l s h = some r → chkL y o = true → GoW X P n0 u0 y o l s h) : GoW X P n0 u0 y ((pc, .dup2, lk, z) :: ops) ls st h := by
  obtain ⟨p, l, e, R, s, m, args, below, meth, c, Q⟩ := X
  obtain ⟨hx, hb, hml, hown, hts, hin, hG, hbs, hfr, hlo⟩ := C
  obtain ⟨hd, hpc, hlk, hck⟩ := chk_next hk rfl
  unfold stp at hr
  dsimp only at hr
  split at hr
  · rename_i x _
    intro H locs lsA hR hS hL
    have w := ih _ _ _ hr hck H locs lsA hR hS hL
    rw [hpc] at w
    exact lv_dup2_11 (vb := va_rf (x.map _)) hx hb hd rfl (by cases x <;> rfl) w
  · exact absurd hr.symm (Option.some_ne_none _)
theorem sn_if {X : Cxt} {P : Par} {n0 u0 y d pc : Nat} {lk : List Nat} {z : Int} {ops : List Op} {ls : LV} {st : List AV} {h : Hp} {cl : Nat → List AV → Hp → Rs} {k : List Op → LV → List AV → Hp → Rs} {r : Option AV × Hp} {cc : ClassFile.Cond} {o : Int} (hy : y < nMeth) (C : Cx X P y d n0) (hk : chkL y ((pc, .ifCond cc o, lk, z) :: ops) = true) (hr : stp cl k d y (.ifCond cc o) lk z ops ls st h = some r) (ih : ∀ o l s, k o l s h = some r → chkL y o = true → GoW X P n0 u0 y o l s h) : GoW X P n0 u0 y ((pc, .ifCond cc o, lk, z) :: ops) ls st h := by
  obtain ⟨p, l, e, R, s, m, args, below, meth, c, Q⟩ := X
  obtain ⟨hx, hb, hml, hown, hts, hin, hG, hbs, hfr, hlo⟩ := C
  obtain ⟨hd, hpc, hlk, hck⟩ := chk_next hk rfl
  unfold stp at hr
  dsimp only at hr
  split at hr
  · simp only [lkc, Bool.and_eq_true, decide_eq_true_eq] at hlk
    obtain ⟨ht, hbl⟩ := hlk
    intro H locs lsA hR hS hL
    cases cc <;> simp only [icmp, decide_eq_true_eq] at hr
    case eq =>
      refine lv_if_eq hx hb hd ht (fun q => ?_) (fun q => ?_)
      · rw [if_pos q] at hr
        have w := ih _ _ _ hr (blk_chk hy hbl) H locs lsA hR hS hL
        rw [pco_blk] at w
        exact w
      · rw [if_neg q] at hr
        have w := ih _ _ _ hr hck H locs lsA hR hS hL
        rw [hpc] at w
        exact w
    case ne =>
      refine lv_if_ne hx hb hd ht (fun q => ?_) (fun q => ?_)
      · rw [if_pos q] at hr
        have w := ih _ _ _ hr (blk_chk hy hbl) H locs lsA hR hS hL
        rw [pco_blk] at w
        exact w
      · rw [if_neg (fun g => g q)] at hr
        have w := ih _ _ _ hr hck H locs lsA hR hS hL
        rw [hpc] at w
        exact w
    case lt =>
      refine lv_if_lt hx hb hd ht (fun q => ?_) (fun q => ?_)
      · rw [if_pos q] at hr
        have w := ih _ _ _ hr (blk_chk hy hbl) H locs lsA hR hS hL
        rw [pco_blk] at w
        exact w
      · rw [if_neg q] at hr
        have w := ih _ _ _ hr hck H locs lsA hR hS hL
        rw [hpc] at w
        exact w
    case ge =>
      refine lv_if_ge hx hb hd ht (fun q => ?_) (fun q => ?_)
      · rw [if_pos q] at hr
        have w := ih _ _ _ hr (blk_chk hy hbl) H locs lsA hR hS hL
        rw [pco_blk] at w
        exact w
      · rw [if_neg q] at hr
        have w := ih _ _ _ hr hck H locs lsA hR hS hL
        rw [hpc] at w
        exact w
    case gt =>
      refine lv_if_gt hx hb hd ht (fun q => ?_) (fun q => ?_)
      · rw [if_pos q] at hr
        have w := ih _ _ _ hr (blk_chk hy hbl) H locs lsA hR hS hL
        rw [pco_blk] at w
        exact w
      · rw [if_neg q] at hr
        have w := ih _ _ _ hr hck H locs lsA hR hS hL
        rw [hpc] at w
        exact w
    case le =>
      refine lv_if_le hx hb hd ht (fun q => ?_) (fun q => ?_)
      · rw [if_pos q] at hr
        have w := ih _ _ _ hr (blk_chk hy hbl) H locs lsA hR hS hL
        rw [pco_blk] at w
        exact w
      · rw [if_neg q] at hr
        have w := ih _ _ _ hr hck H locs lsA hR hS hL
        rw [hpc] at w
        exact w
  · exact absurd hr.symm (Option.some_ne_none _)
theorem sn_icmp {X : Cxt} {P : Par} {n0 u0 y d pc : Nat} {lk : List Nat} {z : Int} {ops : List Op} {ls : LV} {st : List AV} {h : Hp} {cl : Nat → List AV → Hp → Rs} {k : List Op → LV → List AV → Hp → Rs} {r : Option AV × Hp} {cc : ClassFile.Cond} {o : Int} (hy : y < nMeth) (C : Cx X P y d n0) (hk : chkL y ((pc, .if_icmp cc o, lk, z) :: ops) = true) (hr : stp cl k d y (.if_icmp cc o) lk z ops ls st h = some r) (ih : ∀ o l s, k o l s h = some r → chkL y o = true → GoW X P n0 u0 y o l s h) : GoW X P n0 u0 y ((pc, .if_icmp cc o, lk, z) :: ops) ls st h := by
  obtain ⟨p, l, e, R, s, m, args, below, meth, c, Q⟩ := X
  obtain ⟨hx, hb, hml, hown, hts, hin, hG, hbs, hfr, hlo⟩ := C
  obtain ⟨hd, hpc, hlk, hck⟩ := chk_next hk rfl
  unfold stp at hr
  dsimp only at hr
  split at hr
  · simp only [lkc, Bool.and_eq_true, decide_eq_true_eq] at hlk
    obtain ⟨ht, hbl⟩ := hlk
    intro H locs lsA hR hS hL
    cases cc <;> simp only [icmp, decide_eq_true_eq] at hr
    case eq =>
      refine lv_icmp_eq hx hb hd ht (fun q => ?_) (fun q => ?_)
      · rw [if_pos q] at hr
        have w := ih _ _ _ hr (blk_chk hy hbl) H locs lsA hR hS hL
        rw [pco_blk] at w
        exact w
      · rw [if_neg q] at hr
        have w := ih _ _ _ hr hck H locs lsA hR hS hL
        rw [hpc] at w
        exact w
    case ne =>
      refine lv_icmp_ne hx hb hd ht (fun q => ?_) (fun q => ?_)
      · rw [if_pos q] at hr
        have w := ih _ _ _ hr (blk_chk hy hbl) H locs lsA hR hS hL
        rw [pco_blk] at w
        exact w
      · rw [if_neg (fun g => g q)] at hr
        have w := ih _ _ _ hr hck H locs lsA hR hS hL
        rw [hpc] at w
        exact w
    case lt =>
      refine lv_icmp_lt hx hb hd ht (fun q => ?_) (fun q => ?_)
      · rw [if_pos q] at hr
        have w := ih _ _ _ hr (blk_chk hy hbl) H locs lsA hR hS hL
        rw [pco_blk] at w
        exact w
      · rw [if_neg q] at hr
        have w := ih _ _ _ hr hck H locs lsA hR hS hL
        rw [hpc] at w
        exact w
    case ge =>
      refine lv_icmp_ge hx hb hd ht (fun q => ?_) (fun q => ?_)
      · rw [if_pos q] at hr
        have w := ih _ _ _ hr (blk_chk hy hbl) H locs lsA hR hS hL
        rw [pco_blk] at w
        exact w
      · rw [if_neg q] at hr
        have w := ih _ _ _ hr hck H locs lsA hR hS hL
        rw [hpc] at w
        exact w
    case gt =>
      refine lv_icmp_gt hx hb hd ht (fun q => ?_) (fun q => ?_)
      · rw [if_pos q] at hr
        have w := ih _ _ _ hr (blk_chk hy hbl) H locs lsA hR hS hL
        rw [pco_blk] at w
        exact w
      · rw [if_neg q] at hr
        have w := ih _ _ _ hr hck H locs lsA hR hS hL
        rw [hpc] at w
        exact w
    case le =>
      refine lv_icmp_le hx hb hd ht (fun q => ?_) (fun q => ?_)
      · rw [if_pos q] at hr
        have w := ih _ _ _ hr (blk_chk hy hbl) H locs lsA hR hS hL
        rw [pco_blk] at w
        exact w
      · rw [if_neg q] at hr
        have w := ih _ _ _ hr hck H locs lsA hR hS hL
        rw [hpc] at w
        exact w
  · exact absurd hr.symm (Option.some_ne_none _)
theorem sn_ifnull {X : Cxt} {P : Par} {n0 u0 y d pc : Nat} {lk : List Nat} {z : Int} {ops : List Op} {ls : LV} {st : List AV} {h : Hp} {cl : Nat → List AV → Hp → Rs} {k : List Op → LV → List AV → Hp → Rs} {r : Option AV × Hp} {o : Int} (hy : y < nMeth) (C : Cx X P y d n0) (hk : chkL y ((pc, .ifnull o, lk, z) :: ops) = true) (hr : stp cl k d y (.ifnull o) lk z ops ls st h = some r) (ih : ∀ o l s, k o l s h = some r → chkL y o = true → GoW X P n0 u0 y o l s h) : GoW X P n0 u0 y ((pc, .ifnull o, lk, z) :: ops) ls st h := by
  obtain ⟨p, l, e, R, s, m, args, below, meth, c, Q⟩ := X
  obtain ⟨hx, hb, hml, hown, hts, hin, hG, hbs, hfr, hlo⟩ := C
  obtain ⟨hd, hpc, hlk, hck⟩ := chk_next hk rfl
  unfold stp at hr
  dsimp only at hr
  split at hr
  · rename_i b x _
    simp only [lkc, Bool.and_eq_true, decide_eq_true_eq] at hlk
    obtain ⟨ht, hbl⟩ := hlk
    intro H locs lsA hR hS hL
    cases x with
    | none =>
      rw [if_pos rfl] at hr
      have w := ih _ _ _ hr (blk_chk hy hbl) H locs lsA hR hS hL
      rw [pco_blk] at w
      exact lv_ifnullN hx hb hd ht w
    | some a =>
      rw [if_neg (by simp)] at hr
      have w := ih _ _ _ hr hck H locs lsA hR hS hL
      rw [hpc] at w
      exact lv_ifnull hx hb hd w
  · exact absurd hr.symm (Option.some_ne_none _)
theorem sn_ifnonnull {X : Cxt} {P : Par} {n0 u0 y d pc : Nat} {lk : List Nat} {z : Int} {ops : List Op} {ls : LV} {st : List AV} {h : Hp} {cl : Nat → List AV → Hp → Rs} {k : List Op → LV → List AV → Hp → Rs} {r : Option AV × Hp} {o : Int} (hy : y < nMeth) (C : Cx X P y d n0) (hk : chkL y ((pc, .ifnonnull o, lk, z) :: ops) = true) (hr : stp cl k d y (.ifnonnull o) lk z ops ls st h = some r) (ih : ∀ o l s, k o l s h = some r → chkL y o = true → GoW X P n0 u0 y o l s h) : GoW X P n0 u0 y ((pc, .ifnonnull o, lk, z) :: ops) ls st h := by
  obtain ⟨p, l, e, R, s, m, args, below, meth, c, Q⟩ := X
  obtain ⟨hx, hb, hml, hown, hts, hin, hG, hbs, hfr, hlo⟩ := C
  obtain ⟨hd, hpc, hlk, hck⟩ := chk_next hk rfl
  unfold stp at hr
  dsimp only at hr
  split at hr
  · rename_i b x _
    simp only [lkc, Bool.and_eq_true, decide_eq_true_eq] at hlk
    obtain ⟨ht, hbl⟩ := hlk
    intro H locs lsA hR hS hL
    cases x with
    | none =>
      rw [if_pos rfl] at hr
      have w := ih _ _ _ hr hck H locs lsA hR hS hL
      rw [hpc] at w
      exact lv_ifnonnullN hx hb hd w
    | some a =>
      rw [if_neg (by simp)] at hr
      have w := ih _ _ _ hr (blk_chk hy hbl) H locs lsA hR hS hL
      rw [pco_blk] at w
      exact lv_ifnonnull hx hb hd ht w
  · exact absurd hr.symm (Option.some_ne_none _)
theorem sn_nop {X : Cxt} {P : Par} {n0 u0 y d pc : Nat} {lk : List Nat} {z : Int} {ops : List Op} {ls : LV} {st : List AV} {h : Hp} {cl : Nat → List AV → Hp → Rs} {k : List Op → LV → List AV → Hp → Rs} {r : Option AV × Hp} (hy : y < nMeth) (C : Cx X P y d n0) (hk : chkL y ((pc, .nop, lk, z) :: ops) = true) (hr : stp cl k d y (.nop) lk z ops ls st h = some r) (ih : ∀ o l s, k o l s h = some r → chkL y o = true → GoW X P n0 u0 y o l s h) : GoW X P n0 u0 y ((pc, .nop, lk, z) :: ops) ls st h := by
  obtain ⟨p, l, e, R, s, m, args, below, meth, c, Q⟩ := X
  obtain ⟨hx, hb, hml, hown, hts, hin, hG, hbs, hfr, hlo⟩ := C
  have ht := chk_last hk rfl
  unfold stp at hr
  dsimp only at hr
  split at hr
  · simp only [chkT, Bool.and_eq_true, decide_eq_true_eq] at ht
    intro H locs lsA hR hS hL
    have w := ih _ _ _ hr (blk_chk hy ht.2) H locs lsA hR hS hL
    rw [pco_blk, ← ht.1] at w
    exact w
  · exact absurd hr.symm (Option.some_ne_none _)
theorem sn_goto {X : Cxt} {P : Par} {n0 u0 y d pc : Nat} {lk : List Nat} {z : Int} {ops : List Op} {ls : LV} {st : List AV} {h : Hp} {cl : Nat → List AV → Hp → Rs} {k : List Op → LV → List AV → Hp → Rs} {r : Option AV × Hp} {o : Int} (hy : y < nMeth) (C : Cx X P y d n0) (hk : chkL y ((pc, .goto o, lk, z) :: ops) = true) (hr : stp cl k d y (.goto o) lk z ops ls st h = some r) (ih : ∀ o l s, k o l s h = some r → chkL y o = true → GoW X P n0 u0 y o l s h) : GoW X P n0 u0 y ((pc, .goto o, lk, z) :: ops) ls st h := by
  obtain ⟨p, l, e, R, s, m, args, below, meth, c, Q⟩ := X
  obtain ⟨hx, hb, hml, hown, hts, hin, hG, hbs, hfr, hlo⟩ := C
  have ht := chk_last hk rfl
  unfold stp at hr
  dsimp only at hr
  split at hr
  · simp only [chkT, Bool.and_eq_true, decide_eq_true_eq] at ht
    obtain ⟨⟨hd, ht⟩, hbl⟩ := ht
    intro H locs lsA hR hS hL
    have w := ih _ _ _ hr (blk_chk hy hbl) H locs lsA hR hS hL
    rw [pco_blk] at w
    exact lv_goto hx hb hd ht w
  · exact absurd hr.symm (Option.some_ne_none _)
