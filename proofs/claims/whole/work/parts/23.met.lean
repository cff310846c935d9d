/-! SOUNDNESS, 14: every method meets what the small machine says of it -/
def SndP (P : Par) (l : Launch) (n : Nat) : Prop := ∀ (d y : Nat) (ops : List Op) (ls : LV) (st : List AV) (h : Hp) (r : Option AV × Hp), y < nMeth → ex n d y ops ls st h = some r → chkL y ops = true → Iv (hq0 P) h → ∀ (X : Cxt) (n0 u0 : Nat), X.2.1 = l → Cx X P y d n0 → n0 ≤ hN h → u0 ≤ hU h → Rm X n0 u0 r.2 → RetOk X P y n0 u0 r.1 r.2 → GoW X P n0 u0 y ops ls st h
theorem fpc_0a : ∀ y, y < 120 → fpc y 0 = 0 := by decide +kernel
theorem fpc_0b : ∀ y, y < 117 → fpc (120 + y) 0 = 0 := by decide +kernel
theorem fpc_0 {y : Nat} (hy : y < nMeth) : fpc y 0 = 0 := by
  have hy : y < 237 := hy
  rcases Nat.lt_or_ge y 120 with q | q
  · exact fpc_0a y q
  · have := fpc_0b (y - 120) (by omega)
    rwa [show 120 + (y - 120) = y by omega] at this
theorem ret_int {R : Option FieldType} {x : Int32} (h1 : fitT (rtc R) x) (h2 : rtc R ∈ [0, 1, 3, 4]) : ∃ ty, R = some ty ∧ narrow ty (.int x) = .int x := by
  match R, h1, h2 with
  | some .int, _, _ => exact ⟨.int, rfl, rfl⟩
  | some .boolean, h1, _ =>
    refine ⟨.boolean, rfl, ?_⟩
    rcases (show x = 0 ∨ x = 1 from h1) with rfl | rfl <;> rfl
  | some .byte, h1, _ =>
    refine ⟨.byte, rfl, ?_⟩
    show Value.int x.toInt8.toInt32 = _
    rw [show x.toInt8.toInt32 = x from h1]
  | some .char, h1, _ => exact ⟨.char, rfl, h1⟩
  | some .long, _, h2 => exact absurd h2 (by simp [rtc])
  | some (.object _), _, h2 => exact absurd h2 (by simp [rtc])
  | some (.array _), _, h2 => exact absurd h2 (by simp [rtc])
  | some .short, _, h2 => exact absurd h2 (by simp [rtc])
  | some .float, _, h2 => exact absurd h2 (by simp [rtc])
  | some .double, _, h2 => exact absurd h2 (by simp [rtc])
  | none, _, h2 => exact absurd h2 (by simp [rtc])
theorem ret_long {R : Option FieldType} (h : rtc R = 5) : R = some .long := by
  match R, h with
  | some .long, _ => rfl
  | some .int, h => exact absurd h (by simp [rtc])
  | some .boolean, h => exact absurd h (by simp [rtc])
  | some .byte, h => exact absurd h (by simp [rtc])
  | some .char, h => exact absurd h (by simp [rtc])
  | some (.object _), h => exact absurd h (by simp [rtc])
  | some (.array _), h => exact absurd h (by simp [rtc])
  | some .short, h => exact absurd h (by simp [rtc])
  | some .float, h => exact absurd h (by simp [rtc])
  | some .double, h => exact absurd h (by simp [rtc])
  | none, h => exact absurd h (by simp [rtc])
theorem ret_ref {R : Option FieldType} (h : rtc R = 2) : ∃ rt, R = some rt ∧ ((∃ n, rt = .object n) ∨ ∃ t, rt = .array t) := by
  match R, h with
  | some (.object n), _ => exact ⟨_, rfl, .inl ⟨n, rfl⟩⟩
  | some (.array t), _ => exact ⟨_, rfl, .inr ⟨t, rfl⟩⟩
  | some .long, h => exact absurd h (by simp [rtc])
  | some .int, h => exact absurd h (by simp [rtc])
  | some .boolean, h => exact absurd h (by simp [rtc])
  | some .byte, h => exact absurd h (by simp [rtc])
  | some .char, h => exact absurd h (by simp [rtc])
  | some .short, h => exact absurd h (by simp [rtc])
  | some .float, h => exact absurd h (by simp [rtc])
  | some .double, h => exact absurd h (by simp [rtc])
  | none, h => exact absurd h (by simp [rtc])
set_option maxHeartbeats 4000000 in
theorem met_of (P : Par) (l : Launch) (n : Nat) (S : SndP P l n) : MetIH P l n := by
  intro d y as h r h' hy hr hI
  have hy3 : y < nMeth := Nat.lt_of_lt_of_le hy (Nat.sub_le _ _)
  obtain ⟨hi1, hi2, hi3, hi4, hi5, hi6, hi7, hi8, hne⟩ := mck_of hy
  obtain ⟨e1, e2, e3⟩ := eb_chk hy3 hr hne
  rw [e3] at hr
  unfold MetP
  refine Met.ofWF (cc := mB y) (maxL := mxl y) (ret := mR y) hi5 rfl ?_
  intro p e s m args below meth c s₁ B hml hPc
  obtain ⟨rfl, hR, hG, hz⟩ := hPc
  rw [lg_entry_eq]
  have hL := lrel_en (g := al P.1 P.2.1) (n := mxl y) (as := as) e1
  have hpre : ∀ w ∈ (Cond.code (mN y) (mB y) (mxl y) (mR y) :: gw), w.before _ s = true := atoms_spec B.pre
  have hown : s.vm.findClass (mN y).cls = some m.cls := findClass_of_methodNamed B.named
  have hnm := (name_of_methodNamed B.named B.method).1
  let X : Cxt := (p, l, e, (headSpec (Cond.code (mN y) (mB y) (mxl y) (mR y) :: gw) (rmM d (hN h' - hN h) (hU h' - hU h))).room, s, m, (as.map (cv (al P.1 P.2.1))).toArray, below, meth, c, MQ below (QcM P r h') (as.map (cv (al P.1 P.2.1))).toArray s (hN h' - hN h) (hU h' - hU h) (fun q => P.1 ≤ q))
  have C : Cx X P y d (hN h) := ⟨B.exec, B.bytes, hml, hown, fun w hw => hpre w (List.mem_cons_of_mem _ hw), hnm, hG, ⟨hI.1, hz⟩, Nat.le_refl _, Nat.le_refl _⟩
  have hro : RetOk X P y (hN h) (hU h) r h' := by
    intro H locs lsA pc hR' hS' hat
    have hf : ∀ q ∈ locs, P.1 ≤ q.base := fun q hq => hS'.2.2 q hq
    match r, hat with
    | none, hat => exact W.vret B.exec B.bytes (B.returns.trans hat.2) (fun t ht _ => ⟨rfl, by rw [ht]; exact hR', hS'.F ht⟩) hf hat.1 B.notSynchronized
    | some (.inl x), hat =>
      obtain ⟨ty, t1, t2⟩ := ret_int hat.2.1 hat.2.2
      exact W.zret B.exec B.bytes (B.returns.trans t1) t2 (fun t ht _ => ⟨rfl, by rw [ht]; exact hR', hS'.F ht⟩) hf hat.1 B.notSynchronized
    | some (.inr (.inl x)), hat => exact W.lret B.exec B.bytes (B.returns.trans (ret_long hat.2)) (fun t ht _ => ⟨rfl, by rw [ht]; exact hR', hS'.F ht⟩) hf hat.1 B.notSynchronized
    | some (.inr (.inr x)), hat =>
      obtain ⟨rt, t1, t2⟩ := ret_ref hat.2
      refine W.aret B.exec B.bytes (B.returns.trans t1) t2 ?_ (fun t ht _ => ⟨rfl, by rw [ht]; exact hR', hS'.F ht⟩) hf hat.1 B.notSynchronized
      cases x with
      | none => exact .inl rfl
      | some a => exact .inr ⟨_, rfl⟩
  have w := S d y (blk y 0) (en (mxl y) as) [] h (r, h') hy3 hr e2 hI X (hN h) (hU h) rfl C (Nat.le_refl _) (Nat.le_refl _) ⟨Nat.le_refl _, Nat.le_refl _⟩ hro s.heap [] _ hR va_S.rf hL
  rw [Nat.sub_self, Nat.sub_self, pco_blk, fpc_0 hy3] at w
  exact w
theorem snd_all (P : Par) (l : Launch) : ∀ n, SndP P l n := by
  intro n
  induction n with
  | zero => intro d y ops ls st h r hy hr; exact absurd hr (by simp [ex])
  | succ n ih => exact snd P l n (met_of P l n ih) ih
