/-! THE SMALL MACHINE, 4: Wp, a run ends and what it ends with holds Q; a rewriting row an instruction (written by wip/whole/mk07.py) -/
noncomputable def clF (n d : Nat) : Nat → List AV → Hp → Rs := fun y as h => match d with | 0 => none | d' + 1 => ex n d' y (eb y as) (en (mxl y) as) [] h
theorem ex_s (n d m pc : Nat) (i : Instr) (lk : List Nat) (z : Int) (ops : List Op) (ls : LV) (st : List AV) (h : Hp) : ex (n + 1) d m ((pc, i, lk, z) :: ops) ls st h = stp (clF n d) (ex n d m) d m i lk z ops ls st h := rfl
theorem ex_mono : ∀ (n d m : Nat) (ops : List Op) (ls : LV) (st : List AV) (h : Hp) (r : Option AV × Hp), ex n d m ops ls st h = some r → ex (n + 1) d m ops ls st h = some r := by
  intro n
  induction n with
  | zero => intro d m ops ls st h r hr; exact absurd hr (by simp [ex])
  | succ n ih =>
    intro d m ops ls st h r hr
    match ops with
    | [] => exact absurd hr (by simp [ex])
    | (pc, i, lk, z) :: ops =>
      rw [ex_s] at hr ⊢
      rcases stp_inv hr with ⟨o', l', s', h', hk, -⟩ | ⟨y, as, rest, hk⟩ | ⟨v, hk⟩
      · rw [hk] at hr ⊢; exact ih _ _ _ _ _ _ _ hr
      · rw [hk] at hr ⊢
        obtain ⟨q, h1, h2⟩ := Option.bind_eq_some_iff.mp hr
        refine Option.bind_eq_some_iff.mpr ⟨q, ?_, ih _ _ _ _ _ _ _ h2⟩
        cases d with
        | zero => exact absurd h1 (by simp [clF])
        | succ d => exact ih _ _ _ _ _ _ _ h1
      · rw [hk] at hr ⊢; exact hr
theorem ex_more {n m' d m : Nat} {ops : List Op} {ls : LV} {st : List AV} {h : Hp} {r : Option AV × Hp} (hr : ex n d m ops ls st h = some r) (hn : n ≤ m') : ex m' d m ops ls st h = some r := by
  obtain ⟨k, rfl⟩ := Nat.le.dest hn
  clear hn
  induction k with
  | zero => exact hr
  | succ k ih => exact ex_mono _ _ _ _ _ _ _ _ ih
def Wp (d m : Nat) (ops : List Op) (ls : LV) (st : List AV) (h : Hp) (Q : Option AV → Hp → Prop) : Prop := ∃ n r h', ex n d m ops ls st h = some (r, h') ∧ Q r h'
def Wc (d y : Nat) (as : List AV) (h : Hp) (Q : Option AV → Hp → Prop) : Prop := Wp d y (eb y as) (en (mxl y) as) [] h Q
theorem Wc_d {d y : Nat} {as : List AV} {h : Hp} {Q : Option AV → Hp → Prop} (ha : aw as ≤ mxl y) : Wc d y as h Q ↔ Wp d y (blk y 0) (en (mxl y) as) [] h Q := by
  unfold Wc eb; rw [if_pos ha]
theorem Wp.det {d m : Nat} {ops : List Op} {ls : LV} {st : List AV} {h : Hp} {r : Option AV} {h' : Hp} (hd : Wp d m ops ls st h (fun a b => a = r ∧ b = h')) (Q : Option AV → Hp → Prop) : Wp d m ops ls st h Q ↔ Q r h' := by
  obtain ⟨n, r1, h1, e, rfl, rfl⟩ := hd
  constructor
  · rintro ⟨n2, r2, h2, e2, q⟩
    have a := ex_more e (Nat.le_max_left n n2)
    have b := ex_more e2 (Nat.le_max_right n n2)
    rw [a] at b
    cases b
    exact q
  · intro q; exact ⟨n, _, _, e, q⟩
theorem Wp.mono {d m : Nat} {ops : List Op} {ls : LV} {st : List AV} {h : Hp} {Q Q' : Option AV → Hp → Prop} (hw : Wp d m ops ls st h Q) (hq : ∀ r h', Q r h' → Q' r h') : Wp d m ops ls st h Q' := by
  obtain ⟨n, r, h', e, q⟩ := hw
  exact ⟨n, r, h', e, hq r h' q⟩
theorem Wc.mono {d y : Nat} {as : List AV} {h : Hp} {Q Q' : Option AV → Hp → Prop} (hw : Wc d y as h Q) (hq : ∀ r h', Q r h' → Q' r h') : Wc d y as h Q' := Wp.mono hw hq
theorem Wc.det {d y : Nat} {as : List AV} {h : Hp} {r : Option AV} {h' : Hp} (hd : Wc d y as h (fun a b => a = r ∧ b = h')) (Q : Option AV → Hp → Prop) : Wc d y as h Q ↔ Q r h' := Wp.det hd Q
section WpL
variable {d m pc : Nat} {i : Instr} {lk : List Nat} {z : Int} {ops : List Op} {ls : LV} {st : List AV} {h : Hp} {Q : Option AV → Hp → Prop}
theorem Wp_k {o' : List Op} {l' : LV} {s' : List AV} {h' : Hp} (H : ∀ cl k, stp cl k d m i lk z ops ls st h = k o' l' s' h') : Wp d m ((pc, i, lk, z) :: ops) ls st h Q ↔ Wp d m o' l' s' h' Q := by
  constructor
  · rintro ⟨_ | n, r, h2, e, q⟩
    · exact absurd e (by simp [ex])
    · rw [ex_s, H] at e; exact ⟨n, r, h2, e, q⟩
  · rintro ⟨n, r, h2, e, q⟩
    exact ⟨n + 1, r, h2, by rw [ex_s, H]; exact e, q⟩
theorem Wp_g {c : Prop} {o' : List Op} {l' : LV} {s' : List AV} {h' : Hp} (H : ∀ cl k, stp cl k d m i lk z ops ls st h = gd c (k o' l' s' h')) : Wp d m ((pc, i, lk, z) :: ops) ls st h Q ↔ c ∧ Wp d m o' l' s' h' Q := by
  constructor
  · rintro ⟨_ | n, r, h2, e, q⟩
    · exact absurd e (by simp [ex])
    · rw [ex_s, H] at e; exact ⟨(gd_some e).1, n, r, h2, (gd_some e).2, q⟩
  · rintro ⟨hc, n, r, h2, e, q⟩
    exact ⟨n + 1, r, h2, by rw [ex_s, H, gd_t hc]; exact e, q⟩
theorem Wp_r {c : Prop} {v : Option AV} (H : ∀ cl k, stp cl k d m i lk z ops ls st h = gd c (some (v, h))) : Wp d m ((pc, i, lk, z) :: ops) ls st h Q ↔ c ∧ Q v h := by
  constructor
  · rintro ⟨_ | n, r, h2, e, q⟩
    · exact absurd e (by simp [ex])
    · rw [ex_s, H] at e
      obtain ⟨hc, e⟩ := gd_some e
      cases e
      exact ⟨hc, q⟩
  · rintro ⟨hc, q⟩
    exact ⟨1, v, h, by rw [ex_s, H, gd_t hc], q⟩
theorem Wp_r0 {v : Option AV} (H : ∀ cl k, stp cl k d m i lk z ops ls st h = some (v, h)) : Wp d m ((pc, i, lk, z) :: ops) ls st h Q ↔ Q v h := by
  constructor
  · rintro ⟨_ | n, r, h2, e, q⟩
    · exact absurd e (by simp [ex])
    · rw [ex_s, H] at e
      cases e
      exact q
  · intro q
    exact ⟨1, v, h, by rw [ex_s, H], q⟩
theorem Wp_c {c : Prop} {y : Nat} {as rest : List AV} (H : ∀ cl k, stp cl k (d + 1) m i lk z ops ls st h = gd c ((cl y as h).bind fun q => k ops ls (psh q.1 rest) q.2)) : Wp (d + 1) m ((pc, i, lk, z) :: ops) ls st h Q ↔ c ∧ Wc d y as h (fun r h' => Wp (d + 1) m ops ls (psh r rest) h' Q) := by
  constructor
  · rintro ⟨_ | n, r, h2, e, q⟩
    · exact absurd e (by simp [ex])
    · rw [ex_s, H] at e
      obtain ⟨hc, e⟩ := gd_some e
      obtain ⟨⟨r1, h1⟩, e1, e2⟩ := Option.bind_eq_some_iff.mp e
      exact ⟨hc, n, r1, h1, e1, n, r, h2, e2, q⟩
  · rintro ⟨hc, n, r1, h1, e1, n2, r, h2, e2, q⟩
    refine ⟨max n n2 + 1, r, h2, ?_, q⟩
    rw [ex_s, H, gd_t hc]
    refine Option.bind_eq_some_iff.mpr ⟨(r1, h1), ?_, ex_more e2 (Nat.le_max_right _ _)⟩
    exact ex_more e1 (Nat.le_max_left _ _)
theorem Wp_ite {c : Prop} [Decidable c] {o1 o2 : List Op} : Wp d m (if c then o1 else o2) ls st h Q ↔ if c then Wp d m o1 ls st h Q else Wp d m o2 ls st h Q := by
  split <;> rfl
theorem r_nop {b : Nat} : Wp d m ((pc, .nop, [b], z) :: ops) ls st h Q ↔ Wp d m (blk m b) ls st h Q := Wp_k fun _ _ => rfl
theorem r_goto {b : Nat} {o : Int} : Wp d m ((pc, .goto o, [b], z) :: ops) ls st h Q ↔ Wp d m (blk m b) ls st h Q := Wp_k fun _ _ => rfl
theorem r_iconst {v : Int} : Wp d m ((pc, .iconst v, lk, z) :: ops) ls st h Q ↔ Wp d m ops ls (.inl (Int32.ofInt v) :: st) h Q := Wp_k fun _ _ => rfl
theorem r_bipush {v : Int} : Wp d m ((pc, .bipush v, lk, z) :: ops) ls st h Q ↔ Wp d m ops ls (.inl (Int8.ofInt v).toInt32 :: st) h Q := Wp_k fun _ _ => rfl
theorem r_sipush {v : Int} : Wp d m ((pc, .sipush v, lk, z) :: ops) ls st h Q ↔ Wp d m ops ls (.inl (Int16.ofInt v).toInt32 :: st) h Q := Wp_k fun _ _ => rfl
theorem r_lconst {v : Fin 2} : Wp d m ((pc, .lconst v, lk, z) :: ops) ls st h Q ↔ Wp d m ops ls (.inr (.inl (Int64.ofNat v)) :: st) h Q := Wp_k fun _ _ => rfl
theorem r_null : Wp d m ((pc, .aconst_null, lk, z) :: ops) ls st h Q ↔ Wp d m ops ls (.inr (.inr none) :: st) h Q := Wp_k fun _ _ => rfl
theorem r_ldc {n p : Nat} : Wp d m ((pc, .ldc n, [0, p], z) :: ops) ls st h Q ↔ Wp d m ops ls (.inl (Int32.ofInt z) :: st) h Q := Wp_k fun _ _ => rfl
theorem r_ldcw {n p : Nat} : Wp d m ((pc, .ldc_w n, [0, p], z) :: ops) ls st h Q ↔ Wp d m ops ls (.inl (Int32.ofInt z) :: st) h Q := Wp_k fun _ _ => rfl
theorem r_ldcs {n a p : Nat} : Wp d m ((pc, .ldc n, [1, a, p], z) :: ops) ls st h Q ↔ Wp d m ops ls (.inr (.inr (some a)) :: st) h Q := Wp_k fun _ _ => rfl
theorem r_ldc2 {n p : Nat} : Wp d m ((pc, .ldc2_w n, [p], z) :: ops) ls st h Q ↔ Wp d m ops ls (.inr (.inl (Int64.ofInt z)) :: st) h Q := Wp_k fun _ _ => rfl
theorem r_aload4 {x : Option Nat} {a0 a1 a2 a3 : Option AV} : Wp d m ((pc, .aload 4, lk, z) :: ops) (a0 :: a1 :: a2 :: a3 :: some (.inr (.inr x)) :: ls) st h Q ↔ Wp d m ops (a0 :: a1 :: a2 :: a3 :: some (.inr (.inr x)) :: ls) (.inr (.inr x) :: st) h Q := Wp_k fun _ _ => rfl
theorem r_aload5 {x : Option Nat} {a0 a1 a2 a3 a4 : Option AV} : Wp d m ((pc, .aload 5, lk, z) :: ops) (a0 :: a1 :: a2 :: a3 :: a4 :: some (.inr (.inr x)) :: ls) st h Q ↔ Wp d m ops (a0 :: a1 :: a2 :: a3 :: a4 :: some (.inr (.inr x)) :: ls) (.inr (.inr x) :: st) h Q := Wp_k fun _ _ => rfl
theorem r_aload7 {x : Option Nat} {a0 a1 a2 a3 a4 a5 a6 : Option AV} : Wp d m ((pc, .aload 7, lk, z) :: ops) (a0 :: a1 :: a2 :: a3 :: a4 :: a5 :: a6 :: some (.inr (.inr x)) :: ls) st h Q ↔ Wp d m ops (a0 :: a1 :: a2 :: a3 :: a4 :: a5 :: a6 :: some (.inr (.inr x)) :: ls) (.inr (.inr x) :: st) h Q := Wp_k fun _ _ => rfl
theorem r_aload_n0 {x : Option Nat}  : Wp d m ((pc, .aload_n 0, lk, z) :: ops) (some (.inr (.inr x)) :: ls) st h Q ↔ Wp d m ops (some (.inr (.inr x)) :: ls) (.inr (.inr x) :: st) h Q := Wp_k fun _ _ => rfl
theorem r_aload_n1 {x : Option Nat} {a0 : Option AV} : Wp d m ((pc, .aload_n 1, lk, z) :: ops) (a0 :: some (.inr (.inr x)) :: ls) st h Q ↔ Wp d m ops (a0 :: some (.inr (.inr x)) :: ls) (.inr (.inr x) :: st) h Q := Wp_k fun _ _ => rfl
theorem r_aload_n2 {x : Option Nat} {a0 a1 : Option AV} : Wp d m ((pc, .aload_n 2, lk, z) :: ops) (a0 :: a1 :: some (.inr (.inr x)) :: ls) st h Q ↔ Wp d m ops (a0 :: a1 :: some (.inr (.inr x)) :: ls) (.inr (.inr x) :: st) h Q := Wp_k fun _ _ => rfl
theorem r_aload_n3 {x : Option Nat} {a0 a1 a2 : Option AV} : Wp d m ((pc, .aload_n 3, lk, z) :: ops) (a0 :: a1 :: a2 :: some (.inr (.inr x)) :: ls) st h Q ↔ Wp d m ops (a0 :: a1 :: a2 :: some (.inr (.inr x)) :: ls) (.inr (.inr x) :: st) h Q := Wp_k fun _ _ => rfl
theorem r_astore4 {x : Option Nat} {b : Option AV} {a0 a1 a2 a3 : Option AV} : Wp d m ((pc, .astore 4, lk, z) :: ops) (a0 :: a1 :: a2 :: a3 :: b :: ls) (.inr (.inr x) :: st) h Q ↔ Wp d m ops (a0 :: a1 :: a2 :: kl a3 :: some (.inr (.inr x)) :: ls) st h Q := Wp_k fun _ _ => rfl
theorem r_astore5 {x : Option Nat} {b : Option AV} {a0 a1 a2 a3 a4 : Option AV} : Wp d m ((pc, .astore 5, lk, z) :: ops) (a0 :: a1 :: a2 :: a3 :: a4 :: b :: ls) (.inr (.inr x) :: st) h Q ↔ Wp d m ops (a0 :: a1 :: a2 :: a3 :: kl a4 :: some (.inr (.inr x)) :: ls) st h Q := Wp_k fun _ _ => rfl
theorem r_astore7 {x : Option Nat} {b : Option AV} {a0 a1 a2 a3 a4 a5 a6 : Option AV} : Wp d m ((pc, .astore 7, lk, z) :: ops) (a0 :: a1 :: a2 :: a3 :: a4 :: a5 :: a6 :: b :: ls) (.inr (.inr x) :: st) h Q ↔ Wp d m ops (a0 :: a1 :: a2 :: a3 :: a4 :: a5 :: kl a6 :: some (.inr (.inr x)) :: ls) st h Q := Wp_k fun _ _ => rfl
theorem r_astore_n1 {x : Option Nat} {b : Option AV} {a0 : Option AV} : Wp d m ((pc, .astore_n 1, lk, z) :: ops) (a0 :: b :: ls) (.inr (.inr x) :: st) h Q ↔ Wp d m ops (kl a0 :: some (.inr (.inr x)) :: ls) st h Q := Wp_k fun _ _ => rfl
theorem r_astore_n2 {x : Option Nat} {b : Option AV} {a0 a1 : Option AV} : Wp d m ((pc, .astore_n 2, lk, z) :: ops) (a0 :: a1 :: b :: ls) (.inr (.inr x) :: st) h Q ↔ Wp d m ops (a0 :: kl a1 :: some (.inr (.inr x)) :: ls) st h Q := Wp_k fun _ _ => rfl
theorem r_astore_n3 {x : Option Nat} {b : Option AV} {a0 a1 a2 : Option AV} : Wp d m ((pc, .astore_n 3, lk, z) :: ops) (a0 :: a1 :: a2 :: b :: ls) (.inr (.inr x) :: st) h Q ↔ Wp d m ops (a0 :: a1 :: kl a2 :: some (.inr (.inr x)) :: ls) st h Q := Wp_k fun _ _ => rfl
theorem r_iload4 {x : Int32} {a0 a1 a2 a3 : Option AV} : Wp d m ((pc, .iload 4, lk, z) :: ops) (a0 :: a1 :: a2 :: a3 :: some (.inl x) :: ls) st h Q ↔ Wp d m ops (a0 :: a1 :: a2 :: a3 :: some (.inl x) :: ls) (.inl x :: st) h Q := Wp_k fun _ _ => rfl
theorem r_iload5 {x : Int32} {a0 a1 a2 a3 a4 : Option AV} : Wp d m ((pc, .iload 5, lk, z) :: ops) (a0 :: a1 :: a2 :: a3 :: a4 :: some (.inl x) :: ls) st h Q ↔ Wp d m ops (a0 :: a1 :: a2 :: a3 :: a4 :: some (.inl x) :: ls) (.inl x :: st) h Q := Wp_k fun _ _ => rfl
theorem r_iload6 {x : Int32} {a0 a1 a2 a3 a4 a5 : Option AV} : Wp d m ((pc, .iload 6, lk, z) :: ops) (a0 :: a1 :: a2 :: a3 :: a4 :: a5 :: some (.inl x) :: ls) st h Q ↔ Wp d m ops (a0 :: a1 :: a2 :: a3 :: a4 :: a5 :: some (.inl x) :: ls) (.inl x :: st) h Q := Wp_k fun _ _ => rfl
theorem r_iload7 {x : Int32} {a0 a1 a2 a3 a4 a5 a6 : Option AV} : Wp d m ((pc, .iload 7, lk, z) :: ops) (a0 :: a1 :: a2 :: a3 :: a4 :: a5 :: a6 :: some (.inl x) :: ls) st h Q ↔ Wp d m ops (a0 :: a1 :: a2 :: a3 :: a4 :: a5 :: a6 :: some (.inl x) :: ls) (.inl x :: st) h Q := Wp_k fun _ _ => rfl
theorem r_iload8 {x : Int32} {a0 a1 a2 a3 a4 a5 a6 a7 : Option AV} : Wp d m ((pc, .iload 8, lk, z) :: ops) (a0 :: a1 :: a2 :: a3 :: a4 :: a5 :: a6 :: a7 :: some (.inl x) :: ls) st h Q ↔ Wp d m ops (a0 :: a1 :: a2 :: a3 :: a4 :: a5 :: a6 :: a7 :: some (.inl x) :: ls) (.inl x :: st) h Q := Wp_k fun _ _ => rfl
theorem r_iload9 {x : Int32} {a0 a1 a2 a3 a4 a5 a6 a7 a8 : Option AV} : Wp d m ((pc, .iload 9, lk, z) :: ops) (a0 :: a1 :: a2 :: a3 :: a4 :: a5 :: a6 :: a7 :: a8 :: some (.inl x) :: ls) st h Q ↔ Wp d m ops (a0 :: a1 :: a2 :: a3 :: a4 :: a5 :: a6 :: a7 :: a8 :: some (.inl x) :: ls) (.inl x :: st) h Q := Wp_k fun _ _ => rfl
theorem r_iload10 {x : Int32} {a0 a1 a2 a3 a4 a5 a6 a7 a8 a9 : Option AV} : Wp d m ((pc, .iload 10, lk, z) :: ops) (a0 :: a1 :: a2 :: a3 :: a4 :: a5 :: a6 :: a7 :: a8 :: a9 :: some (.inl x) :: ls) st h Q ↔ Wp d m ops (a0 :: a1 :: a2 :: a3 :: a4 :: a5 :: a6 :: a7 :: a8 :: a9 :: some (.inl x) :: ls) (.inl x :: st) h Q := Wp_k fun _ _ => rfl
theorem r_iload_n0 {x : Int32}  : Wp d m ((pc, .iload_n 0, lk, z) :: ops) (some (.inl x) :: ls) st h Q ↔ Wp d m ops (some (.inl x) :: ls) (.inl x :: st) h Q := Wp_k fun _ _ => rfl
theorem r_iload_n1 {x : Int32} {a0 : Option AV} : Wp d m ((pc, .iload_n 1, lk, z) :: ops) (a0 :: some (.inl x) :: ls) st h Q ↔ Wp d m ops (a0 :: some (.inl x) :: ls) (.inl x :: st) h Q := Wp_k fun _ _ => rfl
theorem r_iload_n2 {x : Int32} {a0 a1 : Option AV} : Wp d m ((pc, .iload_n 2, lk, z) :: ops) (a0 :: a1 :: some (.inl x) :: ls) st h Q ↔ Wp d m ops (a0 :: a1 :: some (.inl x) :: ls) (.inl x :: st) h Q := Wp_k fun _ _ => rfl
theorem r_iload_n3 {x : Int32} {a0 a1 a2 : Option AV} : Wp d m ((pc, .iload_n 3, lk, z) :: ops) (a0 :: a1 :: a2 :: some (.inl x) :: ls) st h Q ↔ Wp d m ops (a0 :: a1 :: a2 :: some (.inl x) :: ls) (.inl x :: st) h Q := Wp_k fun _ _ => rfl
theorem r_istore4 {x : Int32} {b : Option AV} {a0 a1 a2 a3 : Option AV} : Wp d m ((pc, .istore 4, lk, z) :: ops) (a0 :: a1 :: a2 :: a3 :: b :: ls) (.inl x :: st) h Q ↔ Wp d m ops (a0 :: a1 :: a2 :: kl a3 :: some (.inl x) :: ls) st h Q := Wp_k fun _ _ => rfl
theorem r_istore5 {x : Int32} {b : Option AV} {a0 a1 a2 a3 a4 : Option AV} : Wp d m ((pc, .istore 5, lk, z) :: ops) (a0 :: a1 :: a2 :: a3 :: a4 :: b :: ls) (.inl x :: st) h Q ↔ Wp d m ops (a0 :: a1 :: a2 :: a3 :: kl a4 :: some (.inl x) :: ls) st h Q := Wp_k fun _ _ => rfl
theorem r_istore6 {x : Int32} {b : Option AV} {a0 a1 a2 a3 a4 a5 : Option AV} : Wp d m ((pc, .istore 6, lk, z) :: ops) (a0 :: a1 :: a2 :: a3 :: a4 :: a5 :: b :: ls) (.inl x :: st) h Q ↔ Wp d m ops (a0 :: a1 :: a2 :: a3 :: a4 :: kl a5 :: some (.inl x) :: ls) st h Q := Wp_k fun _ _ => rfl
theorem r_istore7 {x : Int32} {b : Option AV} {a0 a1 a2 a3 a4 a5 a6 : Option AV} : Wp d m ((pc, .istore 7, lk, z) :: ops) (a0 :: a1 :: a2 :: a3 :: a4 :: a5 :: a6 :: b :: ls) (.inl x :: st) h Q ↔ Wp d m ops (a0 :: a1 :: a2 :: a3 :: a4 :: a5 :: kl a6 :: some (.inl x) :: ls) st h Q := Wp_k fun _ _ => rfl
theorem r_istore8 {x : Int32} {b : Option AV} {a0 a1 a2 a3 a4 a5 a6 a7 : Option AV} : Wp d m ((pc, .istore 8, lk, z) :: ops) (a0 :: a1 :: a2 :: a3 :: a4 :: a5 :: a6 :: a7 :: b :: ls) (.inl x :: st) h Q ↔ Wp d m ops (a0 :: a1 :: a2 :: a3 :: a4 :: a5 :: a6 :: kl a7 :: some (.inl x) :: ls) st h Q := Wp_k fun _ _ => rfl
theorem r_istore9 {x : Int32} {b : Option AV} {a0 a1 a2 a3 a4 a5 a6 a7 a8 : Option AV} : Wp d m ((pc, .istore 9, lk, z) :: ops) (a0 :: a1 :: a2 :: a3 :: a4 :: a5 :: a6 :: a7 :: a8 :: b :: ls) (.inl x :: st) h Q ↔ Wp d m ops (a0 :: a1 :: a2 :: a3 :: a4 :: a5 :: a6 :: a7 :: kl a8 :: some (.inl x) :: ls) st h Q := Wp_k fun _ _ => rfl
theorem r_istore10 {x : Int32} {b : Option AV} {a0 a1 a2 a3 a4 a5 a6 a7 a8 a9 : Option AV} : Wp d m ((pc, .istore 10, lk, z) :: ops) (a0 :: a1 :: a2 :: a3 :: a4 :: a5 :: a6 :: a7 :: a8 :: a9 :: b :: ls) (.inl x :: st) h Q ↔ Wp d m ops (a0 :: a1 :: a2 :: a3 :: a4 :: a5 :: a6 :: a7 :: a8 :: kl a9 :: some (.inl x) :: ls) st h Q := Wp_k fun _ _ => rfl
theorem r_istore_n1 {x : Int32} {b : Option AV} {a0 : Option AV} : Wp d m ((pc, .istore_n 1, lk, z) :: ops) (a0 :: b :: ls) (.inl x :: st) h Q ↔ Wp d m ops (kl a0 :: some (.inl x) :: ls) st h Q := Wp_k fun _ _ => rfl
theorem r_istore_n2 {x : Int32} {b : Option AV} {a0 a1 : Option AV} : Wp d m ((pc, .istore_n 2, lk, z) :: ops) (a0 :: a1 :: b :: ls) (.inl x :: st) h Q ↔ Wp d m ops (a0 :: kl a1 :: some (.inl x) :: ls) st h Q := Wp_k fun _ _ => rfl
theorem r_istore_n3 {x : Int32} {b : Option AV} {a0 a1 a2 : Option AV} : Wp d m ((pc, .istore_n 3, lk, z) :: ops) (a0 :: a1 :: a2 :: b :: ls) (.inl x :: st) h Q ↔ Wp d m ops (a0 :: a1 :: kl a2 :: some (.inl x) :: ls) st h Q := Wp_k fun _ _ => rfl
theorem r_lload4 {x : Int64} {a0 a1 a2 a3 : Option AV} : Wp d m ((pc, .lload 4, lk, z) :: ops) (a0 :: a1 :: a2 :: a3 :: some (.inr (.inl x)) :: ls) st h Q ↔ Wp d m ops (a0 :: a1 :: a2 :: a3 :: some (.inr (.inl x)) :: ls) (.inr (.inl x) :: st) h Q := Wp_k fun _ _ => rfl
theorem r_lload8 {x : Int64} {a0 a1 a2 a3 a4 a5 a6 a7 : Option AV} : Wp d m ((pc, .lload 8, lk, z) :: ops) (a0 :: a1 :: a2 :: a3 :: a4 :: a5 :: a6 :: a7 :: some (.inr (.inl x)) :: ls) st h Q ↔ Wp d m ops (a0 :: a1 :: a2 :: a3 :: a4 :: a5 :: a6 :: a7 :: some (.inr (.inl x)) :: ls) (.inr (.inl x) :: st) h Q := Wp_k fun _ _ => rfl
theorem r_lload10 {x : Int64} {a0 a1 a2 a3 a4 a5 a6 a7 a8 a9 : Option AV} : Wp d m ((pc, .lload 10, lk, z) :: ops) (a0 :: a1 :: a2 :: a3 :: a4 :: a5 :: a6 :: a7 :: a8 :: a9 :: some (.inr (.inl x)) :: ls) st h Q ↔ Wp d m ops (a0 :: a1 :: a2 :: a3 :: a4 :: a5 :: a6 :: a7 :: a8 :: a9 :: some (.inr (.inl x)) :: ls) (.inr (.inl x) :: st) h Q := Wp_k fun _ _ => rfl
theorem r_lload_n0 {x : Int64}  : Wp d m ((pc, .lload_n 0, lk, z) :: ops) (some (.inr (.inl x)) :: ls) st h Q ↔ Wp d m ops (some (.inr (.inl x)) :: ls) (.inr (.inl x) :: st) h Q := Wp_k fun _ _ => rfl
theorem r_lload_n1 {x : Int64} {a0 : Option AV} : Wp d m ((pc, .lload_n 1, lk, z) :: ops) (a0 :: some (.inr (.inl x)) :: ls) st h Q ↔ Wp d m ops (a0 :: some (.inr (.inl x)) :: ls) (.inr (.inl x) :: st) h Q := Wp_k fun _ _ => rfl
theorem r_lload_n2 {x : Int64} {a0 a1 : Option AV} : Wp d m ((pc, .lload_n 2, lk, z) :: ops) (a0 :: a1 :: some (.inr (.inl x)) :: ls) st h Q ↔ Wp d m ops (a0 :: a1 :: some (.inr (.inl x)) :: ls) (.inr (.inl x) :: st) h Q := Wp_k fun _ _ => rfl
theorem r_lstore4 {x : Int64} {b b2 : Option AV} {a0 a1 a2 a3 : Option AV} : Wp d m ((pc, .lstore 4, lk, z) :: ops) (a0 :: a1 :: a2 :: a3 :: b :: b2 :: ls) (.inr (.inl x) :: st) h Q ↔ Wp d m ops (a0 :: a1 :: a2 :: kl a3 :: some (.inr (.inl x)) :: none :: ls) st h Q := Wp_k fun _ _ => rfl
theorem r_lstore8 {x : Int64} {b b2 : Option AV} {a0 a1 a2 a3 a4 a5 a6 a7 : Option AV} : Wp d m ((pc, .lstore 8, lk, z) :: ops) (a0 :: a1 :: a2 :: a3 :: a4 :: a5 :: a6 :: a7 :: b :: b2 :: ls) (.inr (.inl x) :: st) h Q ↔ Wp d m ops (a0 :: a1 :: a2 :: a3 :: a4 :: a5 :: a6 :: kl a7 :: some (.inr (.inl x)) :: none :: ls) st h Q := Wp_k fun _ _ => rfl
theorem r_lstore10 {x : Int64} {b b2 : Option AV} {a0 a1 a2 a3 a4 a5 a6 a7 a8 a9 : Option AV} : Wp d m ((pc, .lstore 10, lk, z) :: ops) (a0 :: a1 :: a2 :: a3 :: a4 :: a5 :: a6 :: a7 :: a8 :: a9 :: b :: b2 :: ls) (.inr (.inl x) :: st) h Q ↔ Wp d m ops (a0 :: a1 :: a2 :: a3 :: a4 :: a5 :: a6 :: a7 :: a8 :: kl a9 :: some (.inr (.inl x)) :: none :: ls) st h Q := Wp_k fun _ _ => rfl
theorem r_lstore_n1 {x : Int64} {b b2 : Option AV} {a0 : Option AV} : Wp d m ((pc, .lstore_n 1, lk, z) :: ops) (a0 :: b :: b2 :: ls) (.inr (.inl x) :: st) h Q ↔ Wp d m ops (kl a0 :: some (.inr (.inl x)) :: none :: ls) st h Q := Wp_k fun _ _ => rfl
theorem r_iinc1 {x : Int32} {v : Int} {a0 : Option AV} : Wp d m ((pc, .iinc 1 v, lk, z) :: ops) (a0 :: some (.inl x) :: ls) st h Q ↔ Wp d m ops (kl a0 :: some (.inl (x + Int32.ofInt v)) :: ls) st h Q := Wp_k fun _ _ => rfl
theorem r_iinc2 {x : Int32} {v : Int} {a0 a1 : Option AV} : Wp d m ((pc, .iinc 2 v, lk, z) :: ops) (a0 :: a1 :: some (.inl x) :: ls) st h Q ↔ Wp d m ops (a0 :: kl a1 :: some (.inl (x + Int32.ofInt v)) :: ls) st h Q := Wp_k fun _ _ => rfl
theorem r_iinc3 {x : Int32} {v : Int} {a0 a1 a2 : Option AV} : Wp d m ((pc, .iinc 3 v, lk, z) :: ops) (a0 :: a1 :: a2 :: some (.inl x) :: ls) st h Q ↔ Wp d m ops (a0 :: a1 :: kl a2 :: some (.inl (x + Int32.ofInt v)) :: ls) st h Q := Wp_k fun _ _ => rfl
theorem r_iinc4 {x : Int32} {v : Int} {a0 a1 a2 a3 : Option AV} : Wp d m ((pc, .iinc 4 v, lk, z) :: ops) (a0 :: a1 :: a2 :: a3 :: some (.inl x) :: ls) st h Q ↔ Wp d m ops (a0 :: a1 :: a2 :: kl a3 :: some (.inl (x + Int32.ofInt v)) :: ls) st h Q := Wp_k fun _ _ => rfl
theorem r_iinc5 {x : Int32} {v : Int} {a0 a1 a2 a3 a4 : Option AV} : Wp d m ((pc, .iinc 5 v, lk, z) :: ops) (a0 :: a1 :: a2 :: a3 :: a4 :: some (.inl x) :: ls) st h Q ↔ Wp d m ops (a0 :: a1 :: a2 :: a3 :: kl a4 :: some (.inl (x + Int32.ofInt v)) :: ls) st h Q := Wp_k fun _ _ => rfl
theorem r_iinc6 {x : Int32} {v : Int} {a0 a1 a2 a3 a4 a5 : Option AV} : Wp d m ((pc, .iinc 6 v, lk, z) :: ops) (a0 :: a1 :: a2 :: a3 :: a4 :: a5 :: some (.inl x) :: ls) st h Q ↔ Wp d m ops (a0 :: a1 :: a2 :: a3 :: a4 :: kl a5 :: some (.inl (x + Int32.ofInt v)) :: ls) st h Q := Wp_k fun _ _ => rfl
theorem r_iinc7 {x : Int32} {v : Int} {a0 a1 a2 a3 a4 a5 a6 : Option AV} : Wp d m ((pc, .iinc 7 v, lk, z) :: ops) (a0 :: a1 :: a2 :: a3 :: a4 :: a5 :: a6 :: some (.inl x) :: ls) st h Q ↔ Wp d m ops (a0 :: a1 :: a2 :: a3 :: a4 :: a5 :: kl a6 :: some (.inl (x + Int32.ofInt v)) :: ls) st h Q := Wp_k fun _ _ => rfl
theorem r_iinc8 {x : Int32} {v : Int} {a0 a1 a2 a3 a4 a5 a6 a7 : Option AV} : Wp d m ((pc, .iinc 8 v, lk, z) :: ops) (a0 :: a1 :: a2 :: a3 :: a4 :: a5 :: a6 :: a7 :: some (.inl x) :: ls) st h Q ↔ Wp d m ops (a0 :: a1 :: a2 :: a3 :: a4 :: a5 :: a6 :: kl a7 :: some (.inl (x + Int32.ofInt v)) :: ls) st h Q := Wp_k fun _ _ => rfl
theorem r_iadd {x y : Int32} : Wp d m ((pc, .iadd, lk, z) :: ops) ls (.inl y :: .inl x :: st) h Q ↔ Wp d m ops ls (.inl (x + y) :: st) h Q := Wp_k fun _ _ => rfl
theorem r_isub {x y : Int32} : Wp d m ((pc, .isub, lk, z) :: ops) ls (.inl y :: .inl x :: st) h Q ↔ Wp d m ops ls (.inl (x - y) :: st) h Q := Wp_k fun _ _ => rfl
theorem r_imul {x y : Int32} : Wp d m ((pc, .imul, lk, z) :: ops) ls (.inl y :: .inl x :: st) h Q ↔ Wp d m ops ls (.inl (x * y) :: st) h Q := Wp_k fun _ _ => rfl
theorem r_iand {x y : Int32} : Wp d m ((pc, .iand, lk, z) :: ops) ls (.inl y :: .inl x :: st) h Q ↔ Wp d m ops ls (.inl (x &&& y) :: st) h Q := Wp_k fun _ _ => rfl
theorem r_ior {x y : Int32} : Wp d m ((pc, .ior, lk, z) :: ops) ls (.inl y :: .inl x :: st) h Q ↔ Wp d m ops ls (.inl (x ||| y) :: st) h Q := Wp_k fun _ _ => rfl
theorem r_ixor {x y : Int32} : Wp d m ((pc, .ixor, lk, z) :: ops) ls (.inl y :: .inl x :: st) h Q ↔ Wp d m ops ls (.inl (x ^^^ y) :: st) h Q := Wp_k fun _ _ => rfl
theorem r_ishl {x y : Int32} : Wp d m ((pc, .ishl, lk, z) :: ops) ls (.inl y :: .inl x :: st) h Q ↔ Wp d m ops ls (.inl (x <<< (y &&& 31)) :: st) h Q := Wp_k fun _ _ => rfl
theorem r_ishr {x y : Int32} : Wp d m ((pc, .ishr, lk, z) :: ops) ls (.inl y :: .inl x :: st) h Q ↔ Wp d m ops ls (.inl (x >>> (y &&& 31)) :: st) h Q := Wp_k fun _ _ => rfl
theorem r_idiv {x y : Int32} : Wp d m ((pc, .idiv, lk, z) :: ops) ls (.inl y :: .inl x :: st) h Q ↔ (¬ y = 0) ∧ Wp d m ops ls (.inl (x / y) :: st) h Q := Wp_g fun _ _ => rfl
theorem r_irem {x y : Int32} : Wp d m ((pc, .irem, lk, z) :: ops) ls (.inl y :: .inl x :: st) h Q ↔ (¬ y = 0) ∧ Wp d m ops ls (.inl (x - x / y * y) :: st) h Q := Wp_g fun _ _ => rfl
theorem r_ineg {x : Int32} : Wp d m ((pc, .ineg, lk, z) :: ops) ls (.inl x :: st) h Q ↔ Wp d m ops ls (.inl (-x) :: st) h Q := Wp_k fun _ _ => rfl
theorem r_ladd {x y : Int64} : Wp d m ((pc, .ladd, lk, z) :: ops) ls (.inr (.inl y) :: .inr (.inl x) :: st) h Q ↔ Wp d m ops ls (.inr (.inl (x + y)) :: st) h Q := Wp_k fun _ _ => rfl
theorem r_lsub {x y : Int64} : Wp d m ((pc, .lsub, lk, z) :: ops) ls (.inr (.inl y) :: .inr (.inl x) :: st) h Q ↔ Wp d m ops ls (.inr (.inl (x - y)) :: st) h Q := Wp_k fun _ _ => rfl
theorem r_lmul {x y : Int64} : Wp d m ((pc, .lmul, lk, z) :: ops) ls (.inr (.inl y) :: .inr (.inl x) :: st) h Q ↔ Wp d m ops ls (.inr (.inl (x * y)) :: st) h Q := Wp_k fun _ _ => rfl
theorem r_land {x y : Int64} : Wp d m ((pc, .land, lk, z) :: ops) ls (.inr (.inl y) :: .inr (.inl x) :: st) h Q ↔ Wp d m ops ls (.inr (.inl (x &&& y)) :: st) h Q := Wp_k fun _ _ => rfl
theorem r_lor {x y : Int64} : Wp d m ((pc, .lor, lk, z) :: ops) ls (.inr (.inl y) :: .inr (.inl x) :: st) h Q ↔ Wp d m ops ls (.inr (.inl (x ||| y)) :: st) h Q := Wp_k fun _ _ => rfl
theorem r_lxor {x y : Int64} : Wp d m ((pc, .lxor, lk, z) :: ops) ls (.inr (.inl y) :: .inr (.inl x) :: st) h Q ↔ Wp d m ops ls (.inr (.inl (x ^^^ y)) :: st) h Q := Wp_k fun _ _ => rfl
theorem r_lshl {x : Int64} {y : Int32} : Wp d m ((pc, .lshl, lk, z) :: ops) ls (.inl y :: .inr (.inl x) :: st) h Q ↔ Wp d m ops ls (.inr (.inl (x <<< (y.toInt64 &&& 63))) :: st) h Q := Wp_k fun _ _ => rfl
theorem r_lshr {x : Int64} {y : Int32} : Wp d m ((pc, .lshr, lk, z) :: ops) ls (.inl y :: .inr (.inl x) :: st) h Q ↔ Wp d m ops ls (.inr (.inl (x >>> (y.toInt64 &&& 63))) :: st) h Q := Wp_k fun _ _ => rfl
theorem r_lcmp {x y : Int64} : Wp d m ((pc, .lcmp, lk, z) :: ops) ls (.inr (.inl y) :: .inr (.inl x) :: st) h Q ↔ Wp d m ops ls (.inl (lg_cmp x y) :: st) h Q := Wp_k fun _ _ => rfl
theorem r_i2l {x : Int32} : Wp d m ((pc, .i2l, lk, z) :: ops) ls (.inl x :: st) h Q ↔ Wp d m ops ls (.inr (.inl x.toInt64) :: st) h Q := Wp_k fun _ _ => rfl
theorem r_l2i {x : Int64} : Wp d m ((pc, .l2i, lk, z) :: ops) ls (.inr (.inl x) :: st) h Q ↔ Wp d m ops ls (.inl x.toInt32 :: st) h Q := Wp_k fun _ _ => rfl
theorem r_i2b {x : Int32} : Wp d m ((pc, .i2b, lk, z) :: ops) ls (.inl x :: st) h Q ↔ Wp d m ops ls (.inl x.toInt8.toInt32 :: st) h Q := Wp_k fun _ _ => rfl
theorem r_i2c {x : Int32} : Wp d m ((pc, .i2c, lk, z) :: ops) ls (.inl x :: st) h Q ↔ Wp d m ops ls (.inl (x.toUInt32 % 65536).toInt32 :: st) h Q := Wp_k fun _ _ => rfl
theorem r_dupi {x : Int32} : Wp d m ((pc, .dup, lk, z) :: ops) ls (.inl x :: st) h Q ↔ Wp d m ops ls (.inl x :: .inl x :: st) h Q := Wp_k fun _ _ => rfl
theorem r_dupr {x : Option Nat} : Wp d m ((pc, .dup, lk, z) :: ops) ls (.inr (.inr x) :: st) h Q ↔ Wp d m ops ls (.inr (.inr x) :: .inr (.inr x) :: st) h Q := Wp_k fun _ _ => rfl
theorem r_popi {x : Int32} : Wp d m ((pc, .pop, lk, z) :: ops) ls (.inl x :: st) h Q ↔ Wp d m ops ls st h Q := Wp_k fun _ _ => rfl
theorem r_popr {x : Option Nat} : Wp d m ((pc, .pop, lk, z) :: ops) ls (.inr (.inr x) :: st) h Q ↔ Wp d m ops ls st h Q := Wp_k fun _ _ => rfl
theorem r_dup2 {x : Option Nat} {y : Int32} : Wp d m ((pc, .dup2, lk, z) :: ops) ls (.inl y :: .inr (.inr x) :: st) h Q ↔ Wp d m ops ls (.inl y :: .inr (.inr x) :: .inl y :: .inr (.inr x) :: st) h Q := Wp_k fun _ _ => rfl
theorem r_if_eq {x : Int32} {b : Nat} {o : Int} : Wp d m ((pc, .ifCond .eq o, [b], z) :: ops) ls (.inl x :: st) h Q ↔ if x = 0 then Wp d m (blk m b) ls st h Q else Wp d m ops ls st h Q := by
  refine (Wp_k fun _ _ => rfl).trans (Wp_ite.trans ?_)
  simp only [icmp, decide_eq_true_eq, ge_iff_le, gt_iff_lt]
theorem r_icmp_eq {x y : Int32} {b : Nat} {o : Int} : Wp d m ((pc, .if_icmp .eq o, [b], z) :: ops) ls (.inl y :: .inl x :: st) h Q ↔ if x = y then Wp d m (blk m b) ls st h Q else Wp d m ops ls st h Q := by
  refine (Wp_k fun _ _ => rfl).trans (Wp_ite.trans ?_)
  simp only [icmp, decide_eq_true_eq, ge_iff_le, gt_iff_lt]
theorem r_if_ne {x : Int32} {b : Nat} {o : Int} : Wp d m ((pc, .ifCond .ne o, [b], z) :: ops) ls (.inl x :: st) h Q ↔ if x = 0 then Wp d m ops ls st h Q else Wp d m (blk m b) ls st h Q := by
  refine (Wp_k fun _ _ => rfl).trans (Wp_ite.trans ?_)
  by_cases hx : x = 0 <;> simp [icmp, hx]
theorem r_icmp_ne {x y : Int32} {b : Nat} {o : Int} : Wp d m ((pc, .if_icmp .ne o, [b], z) :: ops) ls (.inl y :: .inl x :: st) h Q ↔ if x = y then Wp d m ops ls st h Q else Wp d m (blk m b) ls st h Q := by
  refine (Wp_k fun _ _ => rfl).trans (Wp_ite.trans ?_)
  by_cases hx : x = y <;> simp [icmp, hx]
theorem r_if_lt {x : Int32} {b : Nat} {o : Int} : Wp d m ((pc, .ifCond .lt o, [b], z) :: ops) ls (.inl x :: st) h Q ↔ if x < 0 then Wp d m (blk m b) ls st h Q else Wp d m ops ls st h Q := by
  refine (Wp_k fun _ _ => rfl).trans (Wp_ite.trans ?_)
  simp only [icmp, decide_eq_true_eq, ge_iff_le, gt_iff_lt]
theorem r_icmp_lt {x y : Int32} {b : Nat} {o : Int} : Wp d m ((pc, .if_icmp .lt o, [b], z) :: ops) ls (.inl y :: .inl x :: st) h Q ↔ if x < y then Wp d m (blk m b) ls st h Q else Wp d m ops ls st h Q := by
  refine (Wp_k fun _ _ => rfl).trans (Wp_ite.trans ?_)
  simp only [icmp, decide_eq_true_eq, ge_iff_le, gt_iff_lt]
theorem r_if_ge {x : Int32} {b : Nat} {o : Int} : Wp d m ((pc, .ifCond .ge o, [b], z) :: ops) ls (.inl x :: st) h Q ↔ if 0 ≤ x then Wp d m (blk m b) ls st h Q else Wp d m ops ls st h Q := by
  refine (Wp_k fun _ _ => rfl).trans (Wp_ite.trans ?_)
  simp only [icmp, decide_eq_true_eq, ge_iff_le, gt_iff_lt]
theorem r_icmp_ge {x y : Int32} {b : Nat} {o : Int} : Wp d m ((pc, .if_icmp .ge o, [b], z) :: ops) ls (.inl y :: .inl x :: st) h Q ↔ if y ≤ x then Wp d m (blk m b) ls st h Q else Wp d m ops ls st h Q := by
  refine (Wp_k fun _ _ => rfl).trans (Wp_ite.trans ?_)
  simp only [icmp, decide_eq_true_eq, ge_iff_le, gt_iff_lt]
theorem r_if_gt {x : Int32} {b : Nat} {o : Int} : Wp d m ((pc, .ifCond .gt o, [b], z) :: ops) ls (.inl x :: st) h Q ↔ if 0 < x then Wp d m (blk m b) ls st h Q else Wp d m ops ls st h Q := by
  refine (Wp_k fun _ _ => rfl).trans (Wp_ite.trans ?_)
  simp only [icmp, decide_eq_true_eq, ge_iff_le, gt_iff_lt]
theorem r_icmp_gt {x y : Int32} {b : Nat} {o : Int} : Wp d m ((pc, .if_icmp .gt o, [b], z) :: ops) ls (.inl y :: .inl x :: st) h Q ↔ if y < x then Wp d m (blk m b) ls st h Q else Wp d m ops ls st h Q := by
  refine (Wp_k fun _ _ => rfl).trans (Wp_ite.trans ?_)
  simp only [icmp, decide_eq_true_eq, ge_iff_le, gt_iff_lt]
theorem r_if_le {x : Int32} {b : Nat} {o : Int} : Wp d m ((pc, .ifCond .le o, [b], z) :: ops) ls (.inl x :: st) h Q ↔ if x ≤ 0 then Wp d m (blk m b) ls st h Q else Wp d m ops ls st h Q := by
  refine (Wp_k fun _ _ => rfl).trans (Wp_ite.trans ?_)
  simp only [icmp, decide_eq_true_eq, ge_iff_le, gt_iff_lt]
theorem r_icmp_le {x y : Int32} {b : Nat} {o : Int} : Wp d m ((pc, .if_icmp .le o, [b], z) :: ops) ls (.inl y :: .inl x :: st) h Q ↔ if x ≤ y then Wp d m (blk m b) ls st h Q else Wp d m ops ls st h Q := by
  refine (Wp_k fun _ _ => rfl).trans (Wp_ite.trans ?_)
  simp only [icmp, decide_eq_true_eq, ge_iff_le, gt_iff_lt]
theorem r_ifnull {x : Option Nat} {b : Nat} {o : Int} : Wp d m ((pc, .ifnull o, [b], z) :: ops) ls (.inr (.inr x) :: st) h Q ↔ if x = none then Wp d m (blk m b) ls st h Q else Wp d m ops ls st h Q := (Wp_k fun _ _ => rfl).trans Wp_ite
theorem r_ifnonnull {x : Option Nat} {b : Nat} {o : Int} : Wp d m ((pc, .ifnonnull o, [b], z) :: ops) ls (.inr (.inr x) :: st) h Q ↔ if x = none then Wp d m ops ls st h Q else Wp d m (blk m b) ls st h Q := (Wp_k fun _ _ => rfl).trans Wp_ite
theorem r_table {x : Int32} {df : Nat} {bs : List Nat} {o lo hi : Int} {os : Array Int} : Wp d m ((pc, .tableswitch o lo hi os, df :: bs, z) :: ops) ls (.inl x :: st) h Q ↔ Wp d m (blk m (if x.toInt < lo ∨ hi < x.toInt then df else bs.getD (x.toInt - lo).toNat 0)) ls st h Q := Wp_k fun _ _ => rfl
theorem r_lookup {x : Int32} {df : Nat} {bs : List Nat} {o : Int} {ps : Array (Int × Int)} : Wp d m ((pc, .lookupswitch o ps, df :: bs, z) :: ops) ls (.inl x :: st) h Q ↔ Wp d m (blk m (swix ps.toList bs df x.toInt)) ls st h Q := Wp_k fun _ _ => rfl
theorem r_getf0 {n f c p a : Nat} : Wp d m ((pc, .getfield n, [f, c, 0, p], z) :: ops) ls (.inr (.inr (some a)) :: st) h Q ↔ (hS h a = (c, 0)) ∧ Wp d m ops ls (.inl (hF h f a) :: st) h Q := Wp_g fun _ _ => rfl
theorem r_gets0 {n f p q : Nat} : Wp d m ((pc, .getstatic n, [f, 0, p, q], z) :: ops) ls st h Q ↔ Wp d m ops ls (.inl (hF h f 0) :: st) h Q := Wp_k fun _ _ => rfl
theorem r_getf1 {n f c p a : Nat} : Wp d m ((pc, .getfield n, [f, c, 1, p], z) :: ops) ls (.inr (.inr (some a)) :: st) h Q ↔ (hS h a = (c, 0)) ∧ Wp d m ops ls (.inl (hF h f a) :: st) h Q := Wp_g fun _ _ => rfl
theorem r_gets1 {n f p q : Nat} : Wp d m ((pc, .getstatic n, [f, 1, p, q], z) :: ops) ls st h Q ↔ Wp d m ops ls (.inl (hF h f 0) :: st) h Q := Wp_k fun _ _ => rfl
theorem r_getf3 {n f c p a : Nat} : Wp d m ((pc, .getfield n, [f, c, 3, p], z) :: ops) ls (.inr (.inr (some a)) :: st) h Q ↔ (hS h a = (c, 0)) ∧ Wp d m ops ls (.inl (hF h f a) :: st) h Q := Wp_g fun _ _ => rfl
theorem r_gets3 {n f p q : Nat} : Wp d m ((pc, .getstatic n, [f, 3, p, q], z) :: ops) ls st h Q ↔ Wp d m ops ls (.inl (hF h f 0) :: st) h Q := Wp_k fun _ _ => rfl
theorem r_getf2 {n f c p a : Nat} : Wp d m ((pc, .getfield n, [f, c, 2, p], z) :: ops) ls (.inr (.inr (some a)) :: st) h Q ↔ (hS h a = (c, 0)) ∧ Wp d m ops ls (.inr (.inr (hG h f a)) :: st) h Q := Wp_g fun _ _ => rfl
theorem r_gets2 {n f p q : Nat} : Wp d m ((pc, .getstatic n, [f, 2, p, q], z) :: ops) ls st h Q ↔ Wp d m ops ls (.inr (.inr (hG h f 0)) :: st) h Q := Wp_k fun _ _ => rfl
theorem r_putfi {n f c t p a : Nat} {v : Int32} : Wp d m ((pc, .putfield n, [f, c, t, p], z) :: ops) ls (.inl v :: .inr (.inr (some a)) :: st) h Q ↔ (hS h a = (c, 0) ∧ fitT t v) ∧ Wp d m ops ls st (sF h f a v) Q := Wp_g fun _ _ => rfl
theorem r_putfr {n f c t p a : Nat} {r : Option Nat} : Wp d m ((pc, .putfield n, [f, c, t, p], z) :: ops) ls (.inr (.inr r) :: .inr (.inr (some a)) :: st) h Q ↔ (hS h a = (c, 0) ∧ t = 2) ∧ Wp d m ops ls st (sG h f a r) Q := Wp_g fun _ _ => rfl
theorem r_iaload {a : Nat} {i : Int32} : Wp d m ((pc, .iaload, lk, z) :: ops) ls (.inl i :: .inr (.inr (some a)) :: st) h Q ↔ (ki (hS h a).1 = true ∧ inb i (hS h a).2) ∧ Wp d m ops ls (.inl (hE h a i.toNatClampNeg) :: st) h Q := Wp_g fun _ _ => rfl
theorem r_baload {a : Nat} {i : Int32} : Wp d m ((pc, .baload, lk, z) :: ops) ls (.inl i :: .inr (.inr (some a)) :: st) h Q ↔ (kb (hS h a).1 = true ∧ inb i (hS h a).2) ∧ Wp d m ops ls (.inl (hE h a i.toNatClampNeg) :: st) h Q := Wp_g fun _ _ => rfl
theorem r_aaload {a : Nat} {i : Int32} : Wp d m ((pc, .aaload, lk, z) :: ops) ls (.inl i :: .inr (.inr (some a)) :: st) h Q ↔ (kq (hS h a).1 = true ∧ inb i (hS h a).2) ∧ Wp d m ops ls (.inr (.inr (hQ h a i.toNatClampNeg)) :: st) h Q := Wp_g fun _ _ => rfl
theorem r_iastore {a : Nat} {i v : Int32} : Wp d m ((pc, .iastore, lk, z) :: ops) ls (.inl v :: .inl i :: .inr (.inr (some a)) :: st) h Q ↔ ((hS h a).1 = 100 ∧ inb i (hS h a).2) ∧ Wp d m ops ls st (sE h a i.toNatClampNeg v) Q := Wp_g fun _ _ => rfl
theorem r_bastore {a : Nat} {i v : Int32} : Wp d m ((pc, .bastore, lk, z) :: ops) ls (.inl v :: .inl i :: .inr (.inr (some a)) :: st) h Q ↔ ((hS h a).1 = 101 ∧ inb i (hS h a).2 ∧ (v = 0 ∨ v = 1)) ∧ Wp d m ops ls st (sE h a i.toNatClampNeg v) Q := Wp_g fun _ _ => rfl
theorem r_aastore {a b : Nat} {i : Int32} : Wp d m ((pc, .aastore, lk, z) :: ops) ls (.inr (.inr (some b)) :: .inl i :: .inr (.inr (some a)) :: st) h Q ↔ (kq (hS h a).1 = true ∧ hS h b = ((hS h a).1 - 300, 0) ∧ inb i (hS h a).2) ∧ Wp d m ops ls st (sQ h a i.toNatClampNeg (some b)) Q := Wp_g fun _ _ => rfl
theorem r_alen {a : Nat} : Wp d m ((pc, .arraylength, lk, z) :: ops) ls (.inr (.inr (some a)) :: st) h Q ↔ (ka (hS h a).1 = true) ∧ Wp d m ops ls (.inl (Int32.ofNat (hS h a).2) :: st) h Q := Wp_g fun _ _ => rfl
theorem r_new {n c j p : Nat} : Wp d m ((pc, .new n, [c, j, p], z) :: ops) ls st h Q ↔ Wp d m ops ls (.inr (.inr (some (hN h))) :: st) (nw h c 0 j) Q := Wp_k fun _ _ => rfl
theorem r_newa {j : Nat} {v : Int32} {t : ArrayType} : Wp d m ((pc, .newarray t, [j], z) :: ops) ls (.inl v :: st) h Q ↔ (0 ≤ v.toInt ∧ v.toInt ≤ 100000) ∧ Wp d m ops ls (.inr (.inr (some (hN h))) :: st) (nw h j v.toNatClampNeg v.toNatClampNeg) Q := Wp_g fun _ _ => rfl
theorem r_anew {n j p : Nat} {v : Int32} : Wp d m ((pc, .anewarray n, [j, p], z) :: ops) ls (.inl v :: st) h Q ↔ (0 ≤ v.toInt ∧ v.toInt ≤ 100000) ∧ Wp d m ops ls (.inr (.inr (some (hN h))) :: st) (nw h j v.toNatClampNeg v.toNatClampNeg) Q := Wp_g fun _ _ => rfl
theorem r_copy {n e p a b : Nat} {k dp sp : Int32} : Wp d m ((pc, .invokestatic n, [e, p], z) :: ops) ls (.inl k :: .inl dp :: .inr (.inr (some b)) :: .inl sp :: .inr (.inr (some a)) :: st) h Q ↔ ((hS h a).1 = 100 ∧ (hS h b).1 = 100 ∧ a ≠ b ∧ 0 ≤ sp.toInt ∧ 0 ≤ dp.toInt ∧ 0 ≤ k.toInt ∧ sp.toNatClampNeg + k.toNatClampNeg ≤ (hS h a).2 ∧ dp.toNatClampNeg + k.toNatClampNeg ≤ (hS h b).2 ∧ lt5 st = true ∧ 1 ≤ d) ∧ Wp d m ops ls st (cpE h a sp.toNatClampNeg b dp.toNatClampNeg k.toNatClampNeg) Q := Wp_g fun _ _ => rfl
theorem r_oinit {n e p a : Nat} : Wp d m ((pc, .invokespecial n, [e, p], z) :: ops) ls (.inr (.inr (some a)) :: st) h Q ↔ (lt5 st = true ∧ 1 ≤ d) ∧ Wp d m ops ls st h Q := Wp_g fun _ _ => rfl
theorem r_ci1 {n y c p q a : Nat}  : Wp (d + 1) m ((pc, .invokespecial n, [y, 1, c, p, q], z) :: ops) ls (.inr (.inr (some a)) :: st) h Q ↔ (hS h a = (c, 0) ∧ lt5 st = true) ∧ Wc d y [.inr (.inr (some a))] h (fun r h' => Wp (d + 1) m ops ls (psh r st) h' Q) := (Wp_c fun _ _ => rfl).trans (and_congr ⟨fun q => q.2, fun q => ⟨Nat.succ_pos _, q⟩⟩ Iff.rfl)
theorem r_ci2 {n y c p q a : Nat} {v1 : AV} : Wp (d + 1) m ((pc, .invokespecial n, [y, 2, c, p, q], z) :: ops) ls (v1 :: .inr (.inr (some a)) :: st) h Q ↔ (hS h a = (c, 0) ∧ lt5 st = true) ∧ Wc d y [.inr (.inr (some a)), v1] h (fun r h' => Wp (d + 1) m ops ls (psh r st) h' Q) := (Wp_c fun _ _ => rfl).trans (and_congr ⟨fun q => q.2, fun q => ⟨Nat.succ_pos _, q⟩⟩ Iff.rfl)
theorem r_ci4 {n y c p q a : Nat} {v1 v2 v3 : AV} : Wp (d + 1) m ((pc, .invokespecial n, [y, 4, c, p, q], z) :: ops) ls (v3 :: v2 :: v1 :: .inr (.inr (some a)) :: st) h Q ↔ (hS h a = (c, 0) ∧ lt5 st = true) ∧ Wc d y [.inr (.inr (some a)), v1, v2, v3] h (fun r h' => Wp (d + 1) m ops ls (psh r st) h' Q) := (Wp_c fun _ _ => rfl).trans (and_congr ⟨fun q => q.2, fun q => ⟨Nat.succ_pos _, q⟩⟩ Iff.rfl)
theorem r_ci5 {n y c p q a : Nat} {v1 v2 v3 v4 : AV} : Wp (d + 1) m ((pc, .invokespecial n, [y, 5, c, p, q], z) :: ops) ls (v4 :: v3 :: v2 :: v1 :: .inr (.inr (some a)) :: st) h Q ↔ (hS h a = (c, 0) ∧ lt5 st = true) ∧ Wc d y [.inr (.inr (some a)), v1, v2, v3, v4] h (fun r h' => Wp (d + 1) m ops ls (psh r st) h' Q) := (Wp_c fun _ _ => rfl).trans (and_congr ⟨fun q => q.2, fun q => ⟨Nat.succ_pos _, q⟩⟩ Iff.rfl)
theorem r_cs1 {n y c p q : Nat} {v0 : AV} : Wp (d + 1) m ((pc, .invokestatic n, [y, 1, c, p, q], z) :: ops) ls (v0 :: st) h Q ↔ lt5 st = true ∧ Wc d y [v0] h (fun r h' => Wp (d + 1) m ops ls (psh r st) h' Q) := (Wp_c fun _ _ => rfl).trans (and_congr ⟨fun q => q.2, fun q => ⟨Nat.le_add_left _ _, q⟩⟩ Iff.rfl)
theorem r_cs2 {n y c p q : Nat} {v0 v1 : AV} : Wp (d + 1) m ((pc, .invokestatic n, [y, 2, c, p, q], z) :: ops) ls (v1 :: v0 :: st) h Q ↔ lt5 st = true ∧ Wc d y [v0, v1] h (fun r h' => Wp (d + 1) m ops ls (psh r st) h' Q) := (Wp_c fun _ _ => rfl).trans (and_congr ⟨fun q => q.2, fun q => ⟨Nat.le_add_left _ _, q⟩⟩ Iff.rfl)
theorem r_cs3 {n y c p q : Nat} {v0 v1 v2 : AV} : Wp (d + 1) m ((pc, .invokestatic n, [y, 3, c, p, q], z) :: ops) ls (v2 :: v1 :: v0 :: st) h Q ↔ lt5 st = true ∧ Wc d y [v0, v1, v2] h (fun r h' => Wp (d + 1) m ops ls (psh r st) h' Q) := (Wp_c fun _ _ => rfl).trans (and_congr ⟨fun q => q.2, fun q => ⟨Nat.le_add_left _ _, q⟩⟩ Iff.rfl)
theorem r_cs4 {n y c p q : Nat} {v0 v1 v2 v3 : AV} : Wp (d + 1) m ((pc, .invokestatic n, [y, 4, c, p, q], z) :: ops) ls (v3 :: v2 :: v1 :: v0 :: st) h Q ↔ lt5 st = true ∧ Wc d y [v0, v1, v2, v3] h (fun r h' => Wp (d + 1) m ops ls (psh r st) h' Q) := (Wp_c fun _ _ => rfl).trans (and_congr ⟨fun q => q.2, fun q => ⟨Nat.le_add_left _ _, q⟩⟩ Iff.rfl)
theorem r_cv1 {n y c p q a : Nat}  : Wp (d + 1) m ((pc, .invokevirtual n, [y, 1, c, p, q], z) :: ops) ls (.inr (.inr (some a)) :: st) h Q ↔ (hS h a = (c, 0) ∧ lt5 st = true) ∧ Wc d y [.inr (.inr (some a))] h (fun r h' => Wp (d + 1) m ops ls (psh r st) h' Q) := (Wp_c fun _ _ => rfl).trans (and_congr ⟨fun q => q.2, fun q => ⟨Nat.succ_pos _, q⟩⟩ Iff.rfl)
theorem r_cv2 {n y c p q a : Nat} {v1 : AV} : Wp (d + 1) m ((pc, .invokevirtual n, [y, 2, c, p, q], z) :: ops) ls (v1 :: .inr (.inr (some a)) :: st) h Q ↔ (hS h a = (c, 0) ∧ lt5 st = true) ∧ Wc d y [.inr (.inr (some a)), v1] h (fun r h' => Wp (d + 1) m ops ls (psh r st) h' Q) := (Wp_c fun _ _ => rfl).trans (and_congr ⟨fun q => q.2, fun q => ⟨Nat.succ_pos _, q⟩⟩ Iff.rfl)
theorem r_cv3 {n y c p q a : Nat} {v1 v2 : AV} : Wp (d + 1) m ((pc, .invokevirtual n, [y, 3, c, p, q], z) :: ops) ls (v2 :: v1 :: .inr (.inr (some a)) :: st) h Q ↔ (hS h a = (c, 0) ∧ lt5 st = true) ∧ Wc d y [.inr (.inr (some a)), v1, v2] h (fun r h' => Wp (d + 1) m ops ls (psh r st) h' Q) := (Wp_c fun _ _ => rfl).trans (and_congr ⟨fun q => q.2, fun q => ⟨Nat.succ_pos _, q⟩⟩ Iff.rfl)
theorem r_cv4 {n y c p q a : Nat} {v1 v2 v3 : AV} : Wp (d + 1) m ((pc, .invokevirtual n, [y, 4, c, p, q], z) :: ops) ls (v3 :: v2 :: v1 :: .inr (.inr (some a)) :: st) h Q ↔ (hS h a = (c, 0) ∧ lt5 st = true) ∧ Wc d y [.inr (.inr (some a)), v1, v2, v3] h (fun r h' => Wp (d + 1) m ops ls (psh r st) h' Q) := (Wp_c fun _ _ => rfl).trans (and_congr ⟨fun q => q.2, fun q => ⟨Nat.succ_pos _, q⟩⟩ Iff.rfl)
theorem r_cv5 {n y c p q a : Nat} {v1 v2 v3 v4 : AV} : Wp (d + 1) m ((pc, .invokevirtual n, [y, 5, c, p, q], z) :: ops) ls (v4 :: v3 :: v2 :: v1 :: .inr (.inr (some a)) :: st) h Q ↔ (hS h a = (c, 0) ∧ lt5 st = true) ∧ Wc d y [.inr (.inr (some a)), v1, v2, v3, v4] h (fun r h' => Wp (d + 1) m ops ls (psh r st) h' Q) := (Wp_c fun _ _ => rfl).trans (and_congr ⟨fun q => q.2, fun q => ⟨Nat.succ_pos _, q⟩⟩ Iff.rfl)
theorem r_cv6 {n y c p q a : Nat} {v1 v2 v3 v4 v5 : AV} : Wp (d + 1) m ((pc, .invokevirtual n, [y, 6, c, p, q], z) :: ops) ls (v5 :: v4 :: v3 :: v2 :: v1 :: .inr (.inr (some a)) :: st) h Q ↔ (hS h a = (c, 0) ∧ lt5 st = true) ∧ Wc d y [.inr (.inr (some a)), v1, v2, v3, v4, v5] h (fun r h' => Wp (d + 1) m ops ls (psh r st) h' Q) := (Wp_c fun _ _ => rfl).trans (and_congr ⟨fun q => q.2, fun q => ⟨Nat.succ_pos _, q⟩⟩ Iff.rfl)
theorem r_iret {t : Nat} {x : Int32} : Wp d m ((pc, .ireturn, [t], z) :: ops) ls [.inl x] h Q ↔ fitT t x ∧ Q (some (.inl x)) h := Wp_r fun _ _ => rfl
theorem r_lret {x : Int64} : Wp d m ((pc, .lreturn, lk, z) :: ops) ls [.inr (.inl x)] h Q ↔ Q (some (.inr (.inl x))) h := Wp_r0 fun _ _ => rfl
theorem r_aret {x : Option Nat} : Wp d m ((pc, .areturn, lk, z) :: ops) ls [.inr (.inr x)] h Q ↔ Q (some (.inr (.inr x))) h := Wp_r0 fun _ _ => rfl
theorem r_ret : Wp d m ((pc, .return_, lk, z) :: ops) ls [] h Q ↔ Q none h := Wp_r0 fun _ _ => rfl
end WpL
theorem kl_n : kl none = none := rfl
theorem kl_i (x : Int32) : kl (some (.inl x)) = some (.inl x) := rfl
theorem kl_r (x : Option Nat) : kl (some (.inr (.inr x))) = some (.inr (.inr x)) := rfl
theorem psh_n (st : List AV) : psh none st = st := rfl
theorem psh_s (v : AV) (st : List AV) : psh (some v) st = v :: st := rfl
theorem lt5_0 : (lt5 [] = true) = True := by simp [lt5]
theorem lt5_1 (a : AV) : (lt5 [a] = true) = True := by simp [lt5]
theorem lt5_2 (a b : AV) : (lt5 [a, b] = true) = True := by simp [lt5]
theorem lt5_3 (a b c : AV) : (lt5 [a, b, c] = true) = True := by simp [lt5]
theorem lt5_4 (a b c e : AV) : (lt5 [a, b, c, e] = true) = True := by simp [lt5]
theorem ent_0 (n : Nat) : en (n + 1) [] = none :: en n [] := rfl
theorem ent_i (n : Nat) (x : Int32) (l : List AV) : en (n + 1) (.inl x :: l) = some (.inl x) :: en n l := by cases n <;> rfl
theorem ent_r (n : Nat) (x : Option Nat) (l : List AV) : en (n + 1) (.inr (.inr x) :: l) = some (.inr (.inr x)) :: en n l := by cases n <;> rfl
theorem ent_j (n : Nat) (x : Int64) (l : List AV) : en (n + 2) (.inr (.inl x) :: l) = some (.inr (.inl x)) :: none :: en n l := rfl
theorem ent_z (l : List AV) : en 0 l = [] := rfl
theorem fit_0 (v : Int32) : fitT 0 v = True := rfl
theorem fit_1 (v : Int32) : fitT 1 v = (v = 0 ∨ v = 1) := rfl
