/-! THE START, 1: the world at the law's entry (written by wip/whole/mkstart.py) -/
theorem in_fm {α : Type} {big ws : List α} {ps : List Nat} (h : ws = ps.filterMap (fun i => big[i]?)) : ∀ w ∈ ws, w ∈ big := by
  intro w hw
  rw [h] at hw
  obtain ⟨i, -, hi⟩ := List.mem_filterMap.mp hw
  exact List.mem_of_getElem? hi
theorem gw_in {w : Cond} (h : w ∈ gw) : w ∈ lw_tbl := (List.mem_filter.mp h).1
abbrev nrL : List Cond := flatC (Jvm.Cond.and given_1 narrow_1)
theorem st_el1 : ∀ j, j < 6 → Cond.eq (.elem (.static "WaterCruise" "KIND_ABOVE" "[I") (.int (Int32.ofNat j))) (.int ((statV.getD 0 []).getD j 0)) ∈ nrL := by decide +kernel
theorem st_a1 : Cond.arrayOf (.static "WaterCruise" "KIND_ABOVE" "[I") .int ∈ nrL ∧ Cond.eq (.length (.static "WaterCruise" "KIND_ABOVE" "[I")) (.int (Int32.ofNat 6)) ∈ nrL := by decide +kernel
theorem st_l1 : Cond.laysStatic "WaterCruise" "KIND_ABOVE" "[I" ∈ lw_tbl ∧ Cond.initialized "WaterCruise" ∈ lw_tbl := by decide +kernel
theorem st_el2 : ∀ j, j < 6 → Cond.eq (.elem (.static "WaterCruise" "DEPTH_A_MINUTE" "[I") (.int (Int32.ofNat j))) (.int ((statV.getD 1 []).getD j 0)) ∈ nrL := by decide +kernel
theorem st_a2 : Cond.arrayOf (.static "WaterCruise" "DEPTH_A_MINUTE" "[I") .int ∈ nrL ∧ Cond.eq (.length (.static "WaterCruise" "DEPTH_A_MINUTE" "[I")) (.int (Int32.ofNat 6)) ∈ nrL := by decide +kernel
theorem st_l2 : Cond.laysStatic "WaterCruise" "DEPTH_A_MINUTE" "[I" ∈ lw_tbl ∧ Cond.initialized "WaterCruise" ∈ lw_tbl := by decide +kernel
theorem st_el3 : ∀ j, j < 6 → Cond.eq (.elem (.static "WaterCruise" "MINUTES_MORE" "[I") (.int (Int32.ofNat j))) (.int ((statV.getD 2 []).getD j 0)) ∈ nrL := by decide +kernel
theorem st_a3 : Cond.arrayOf (.static "WaterCruise" "MINUTES_MORE" "[I") .int ∈ nrL ∧ Cond.eq (.length (.static "WaterCruise" "MINUTES_MORE" "[I")) (.int (Int32.ofNat 6)) ∈ nrL := by decide +kernel
theorem st_l3 : Cond.laysStatic "WaterCruise" "MINUTES_MORE" "[I" ∈ lw_tbl ∧ Cond.initialized "WaterCruise" ∈ lw_tbl := by decide +kernel
theorem st_el4 : ∀ j, j < 24 → Cond.eq (.elem (.static "WaterCruise$Acts" "BODIES" "[I") (.int (Int32.ofNat j))) (.int ((statV.getD 3 []).getD j 0)) ∈ nrL := by decide +kernel
theorem st_a4 : Cond.arrayOf (.static "WaterCruise$Acts" "BODIES" "[I") .int ∈ nrL ∧ Cond.eq (.length (.static "WaterCruise$Acts" "BODIES" "[I")) (.int (Int32.ofNat 24)) ∈ nrL := by decide +kernel
theorem st_l4 : Cond.laysStatic "WaterCruise$Acts" "BODIES" "[I" ∈ lw_tbl ∧ Cond.initialized "WaterCruise$Acts" ∈ lw_tbl := by decide +kernel
theorem st_l5 : Cond.laysStatic "java/lang/String" "COMPACT_STRINGS" "Z" ∈ lw_tbl ∧ Cond.initialized "java/lang/String" ∈ lw_tbl := by decide +kernel
theorem st_l6 : Cond.laysStatic "jdk/internal/util/Preconditions" "SIOOBE_FORMATTER" "Ljava/util/function/BiFunction;" ∈ lw_tbl ∧ Cond.initialized "jdk/internal/util/Preconditions" ∈ lw_tbl := by decide +kernel
theorem st_v5 : Cond.eq (.static "java/lang/String" "COMPACT_STRINGS" "Z") (.int 1) ∈ nrL := by decide +kernel
theorem st_v6 : Cond.isRef (.static "jdk/internal/util/Preconditions" "SIOOBE_FORMATTER" "Ljava/util/function/BiFunction;") ∈ nrL := by decide +kernel
theorem ss_ex : ∀ i, i < 9 → Cond.exactly (.string "WaterCruise$LineReader" (strIx.getD i 0)) "java/lang/String" ∈ nrL := by decide +kernel
theorem ss_co : ∀ i, i < 9 → Cond.eq (.field (.string "WaterCruise$LineReader" (strIx.getD i 0)) "java/lang/String" "coder" "B") (.int 0) ∈ nrL := by decide +kernel
theorem ss_ar : ∀ i, i < 9 → Cond.arrayOf (.field (.string "WaterCruise$LineReader" (strIx.getD i 0)) "java/lang/String" "value" "[B") .byte ∈ nrL := by decide +kernel
theorem ss_le : ∀ i, i < 9 → Cond.eq (.length (.field (.string "WaterCruise$LineReader" (strIx.getD i 0)) "java/lang/String" "value" "[B")) (.int (Int32.ofNat (strLen.getD i 0))) ∈ nrL := by decide +kernel
theorem ss_el : ∀ i, i < 9 → ∀ j, j < strLen.getD i 0 → Cond.eq (.elem (.field (.string "WaterCruise$LineReader" (strIx.getD i 0)) "java/lang/String" "value" "[B") (.int (Int32.ofNat j))) (.int ((strByt.getD i []).getD j 0)) ∈ nrL := by decide +kernel
theorem ss_ne : ∀ i, i < 9 → ∀ j, j < 9 → i ≠ j → Cond.not (Cond.eq (.string "WaterCruise$LineReader" (strIx.getD i 0)) (.string "WaterCruise$LineReader" (strIx.getD j 0))) ∈ nrL ∨ Cond.not (Cond.eq (.string "WaterCruise$LineReader" (strIx.getD j 0)) (.string "WaterCruise$LineReader" (strIx.getD i 0))) ∈ nrL := by decide +kernel
theorem ss_rf : ∀ i, i < 9 → Cond.stringRef "WaterCruise$LineReader" (strIx.getD i 0) (strT.getD i "") ∈ lw_tbl := by decide +kernel
theorem sa_i : Cond.arrayClass .int ∈ lw_tbl ∧ Cond.arrayClass .boolean ∈ lw_tbl := by decide +kernel
theorem sa_2 : Cond.arrayOver (.object (cnm 2)) ∈ lw_tbl := by decide +kernel
theorem sa_3 : Cond.arrayOver (.object (cnm 3)) ∈ lw_tbl := by decide +kernel
theorem sa_4 : Cond.arrayOver (.object (cnm 4)) ∈ lw_tbl := by decide +kernel
theorem sa_8 : Cond.arrayOver (.object (cnm 8)) ∈ lw_tbl := by decide +kernel
theorem sa_9 : Cond.arrayOver (.object (cnm 9)) ∈ lw_tbl := by decide +kernel
theorem sa_10 : Cond.arrayOver (.object (cnm 10)) ∈ lw_tbl := by decide +kernel
section ST
variable {s : State} {b : Nat}
theorem kn_all (hts : ∀ w ∈ lw_tbl, w.before #[Value.ref b] s = true) : ∃ (dC : Nat → ClassId) (dI : Nat → Nat → Nat), ∀ (k : Nat) (q : vw_C), clsL[k]? = some q → u_Kn s q.1 q.2.1 q.2.2 (dC k) (dI k) := by
  have A : ∀ k : Nat, ∃ x : ClassId × (Nat → Nat), ∀ q : vw_C, clsL[k]? = some q → u_Kn s q.1 q.2.1 q.2.2 x.1 x.2 := by
    intro k
    match k with
    | 0 => obtain ⟨c, i, h⟩ := u_known hts (in_fm ucl1) (hts _ (gw_in (wd_in uci1.1))); exact ⟨(c, i), fun q hq => by cases hq; exact h⟩
    | 1 => obtain ⟨c, i, h⟩ := u_known hts (in_fm ucl2) (hts _ (gw_in (wd_in uci2.1))); exact ⟨(c, i), fun q hq => by cases hq; exact h⟩
    | 2 => obtain ⟨c, i, h⟩ := u_known hts (in_fm ucl3) (hts _ (gw_in (wd_in uci3.1))); exact ⟨(c, i), fun q hq => by cases hq; exact h⟩
    | 3 => obtain ⟨c, i, h⟩ := u_known hts (in_fm ucl4) (hts _ (gw_in (wd_in uci4.1))); exact ⟨(c, i), fun q hq => by cases hq; exact h⟩
    | 4 => obtain ⟨c, i, h⟩ := u_known hts (in_fm ucl5) (hts _ (gw_in (wd_in uci5.1))); exact ⟨(c, i), fun q hq => by cases hq; exact h⟩
    | 5 => obtain ⟨c, i, h⟩ := u_known hts (in_fm ucl6) (hts _ (gw_in (wd_in uci6.1))); exact ⟨(c, i), fun q hq => by cases hq; exact h⟩
    | 6 => obtain ⟨c, i, h⟩ := u_known hts (in_fm ucl7) (hts _ (gw_in (wd_in uci7.1))); exact ⟨(c, i), fun q hq => by cases hq; exact h⟩
    | 7 => obtain ⟨c, i, h⟩ := u_known hts (in_fm ucl8) (hts _ (gw_in (wd_in uci8.1))); exact ⟨(c, i), fun q hq => by cases hq; exact h⟩
    | 8 => obtain ⟨c, i, h⟩ := u_known hts (in_fm ucl9) (hts _ (gw_in (wd_in uci9.1))); exact ⟨(c, i), fun q hq => by cases hq; exact h⟩
    | 9 => obtain ⟨c, i, h⟩ := u_known hts (in_fm ucl10) (hts _ (gw_in (wd_in uci10.1))); exact ⟨(c, i), fun q hq => by cases hq; exact h⟩
    | 10 => obtain ⟨c, i, h⟩ := u_known hts (in_fm ucl11) (hts _ (gw_in (wd_in uci11.1))); exact ⟨(c, i), fun q hq => by cases hq; exact h⟩
    | 11 => obtain ⟨c, i, h⟩ := u_known hts (in_fm ucl12) (hts _ (gw_in (wd_in uci12.1))); exact ⟨(c, i), fun q hq => by cases hq; exact h⟩
    | k + 12 => exact ⟨(0, fun _ => 0), fun q hq => by simp [clsL] at hq⟩
  obtain ⟨f, hf⟩ := Classical.axiomOfChoice A
  exact ⟨fun k => (f k).1, fun k => (f k).2, fun k q hq => hf k q hq⟩
theorem arr_int {A : Array Value} (h : (Cond.arrayClass .int).before A s = true) : ∃ c, ArrOfT s c .int ∧ va_RA s c .int := by
  obtain ⟨c, k, comp, h1, h2, h3⟩ := Cond.arrayClass_spec h
  exact ⟨c, fun n z => ⟨fun k h => (by cases h), k, h2, comp, h3⟩, h1⟩
theorem arr_bool {A : Array Value} (h : (Cond.arrayClass .boolean).before A s = true) : ∃ c, ArrOfT s c .boolean ∧ va_RA s c .boolean := by
  obtain ⟨c, k, comp, h1, h2, h3⟩ := Cond.arrayClass_spec h
  exact ⟨c, fun n z => ⟨fun k h => (by cases h), k, h2, comp, h3⟩, h1⟩
theorem arr_q {A : Array Value} {C : String} (h : (Cond.arrayOver (.object C)).before A s = true) : ∃ c, ArrOfT s c (.object C) ∧ va_RA s c (.object C) := by
  obtain ⟨comp, c, k, f1, f2, f3, f4, f5⟩ := Cond.arrayOver_spec h
  exact ⟨c, fun n z => ⟨fun k h => (by cases h), k, f3, comp, f4⟩, k, comp, f3, f4, f1, f5⟩
theorem va_K_all (hts : ∀ w ∈ lw_tbl, w.before #[Value.ref b] s = true) : ∃ (D : va_G) (ca : Nat → ClassId), va_K D clsL (tysL ca) s := by
  obtain ⟨dC, dI, hK⟩ := kn_all hts
  obtain ⟨c0, a0⟩ := arr_int (hts _ sa_i.1)
  obtain ⟨c1, a1⟩ := arr_bool (hts _ sa_i.2)
  obtain ⟨c2, a2⟩ := arr_q (hts _ sa_2)
  obtain ⟨c3, a3⟩ := arr_q (hts _ sa_3)
  obtain ⟨c4, a4⟩ := arr_q (hts _ sa_4)
  obtain ⟨c5, a5⟩ := arr_q (hts _ sa_8)
  obtain ⟨c6, a6⟩ := arr_q (hts _ sa_9)
  obtain ⟨c7, a7⟩ := arr_q (hts _ sa_10)
  refine ⟨(dC, dI), fun k => if k = 100 then c0 else if k = 101 then c1 else if k = 302 then c2 else if k = 303 then c3 else if k = 304 then c4 else if k = 308 then c5 else if k = 309 then c6 else c7, hK, fun k q hq => ?_⟩
  match k, hq with
  | 0, hq => cases hq; exact a0
  | 1, hq => cases hq; exact a1
  | 2, hq => cases hq; exact a2
  | 3, hq => cases hq; exact a3
  | 4, hq => cases hq; exact a4
  | 5, hq => cases hq; exact a5
  | 6, hq => cases hq; exact a6
  | 7, hq => cases hq; exact a7
  | k + 8, hq => exact absurd hq (by simp [tysL])
theorem glob_0 (hts : ∀ w ∈ lw_tbl, w.before #[Value.ref b] s = true) (hgv : (Jvm.Cond.and given_1 narrow_1).before #[Value.ref b] s = true) {L : Nat} {xs : Nat → Int32} (hX : va_X b L xs s s.heap) (hbl : b < s.heap.size) : ∃ (od : Nat → Nat) (D : va_G) (ca : Nat → ClassId) (fm : Option Nat), od 0 = b ∧ Glob (s.heap.size, od, D, ca, L, xs, fm) s s.heap := by
  have nr : ∀ w ∈ nrL, w.before #[Value.ref b] s = true := flat_of_before _ hgv
  have hA : ∀ a : Nat, a < s.heap.size → ¬ s.heap.size ≤ a := fun a h => Nat.not_le.mpr h
  obtain ⟨D, ca, hK⟩ := va_K_all hts
  obtain ⟨t1, e1, T1⟩ := va_Tof (args := #[Value.ref b]) (tm := (.static "WaterCruise" "KIND_ABOVE" "[I")) (ty := .int) (N := 6) (f := fun i => .int ((statV.getD 0 []).getD i 0)) (A := fun q => s.heap.size ≤ q) (by decide) (nr _ st_a1.1) (va_eqt (nr _ st_a1.2)) (fun j hj => va_eqt (nr _ (st_el1 j hj))) hA
  have Z1 := va_Zof (A := fun q => s.heap.size ≤ q) (hts _ st_l1.1) (hts _ st_l1.2) e1 hA
  obtain ⟨t2, e2, T2⟩ := va_Tof (args := #[Value.ref b]) (tm := (.static "WaterCruise" "DEPTH_A_MINUTE" "[I")) (ty := .int) (N := 6) (f := fun i => .int ((statV.getD 1 []).getD i 0)) (A := fun q => s.heap.size ≤ q) (by decide) (nr _ st_a2.1) (va_eqt (nr _ st_a2.2)) (fun j hj => va_eqt (nr _ (st_el2 j hj))) hA
  have Z2 := va_Zof (A := fun q => s.heap.size ≤ q) (hts _ st_l2.1) (hts _ st_l2.2) e2 hA
  obtain ⟨t3, e3, T3⟩ := va_Tof (args := #[Value.ref b]) (tm := (.static "WaterCruise" "MINUTES_MORE" "[I")) (ty := .int) (N := 6) (f := fun i => .int ((statV.getD 2 []).getD i 0)) (A := fun q => s.heap.size ≤ q) (by decide) (nr _ st_a3.1) (va_eqt (nr _ st_a3.2)) (fun j hj => va_eqt (nr _ (st_el3 j hj))) hA
  have Z3 := va_Zof (A := fun q => s.heap.size ≤ q) (hts _ st_l3.1) (hts _ st_l3.2) e3 hA
  obtain ⟨t4, e4, T4⟩ := va_Tof (args := #[Value.ref b]) (tm := (.static "WaterCruise$Acts" "BODIES" "[I")) (ty := .int) (N := 24) (f := fun i => .int ((statV.getD 3 []).getD i 0)) (A := fun q => s.heap.size ≤ q) (by decide) (nr _ st_a4.1) (va_eqt (nr _ st_a4.2)) (fun j hj => va_eqt (nr _ (st_el4 j hj))) hA
  have Z4 := va_Zof (A := fun q => s.heap.size ≤ q) (hts _ st_l4.1) (hts _ st_l4.2) e4 hA
  have Z5 := va_Zof (A := fun q => s.heap.size ≤ q) (hts _ st_l5.1) (hts _ st_l5.2) (va_eqt (nr _ st_v5)) hA
  obtain ⟨v6, e6, r6⟩ := Cond.isRef_spec (nr _ st_v6)
  have Z6 := va_Zof (A := fun q => s.heap.size ≤ q) (hts _ st_l6.1) (hts _ st_l6.2) e6 hA
  obtain ⟨adK, adV, S, hSe⟩ := vk_Sof (args := #[Value.ref b]) (s := s) (N := 9) (tm := fun i => .string "WaterCruise$LineReader" (strIx.getD i 0)) (len := strLen) (byt := strByt) (A := fun q => s.heap.size ≤ q) (by decide) (fun i hi => nr _ (ss_ex i hi)) (fun i hi => nr _ (ss_co i hi)) (fun i hi => nr _ (ss_ar i hi)) (fun i hi => nr _ (ss_le i hi)) (fun i hi j hj => nr _ (ss_el i hi j hj)) (fun i j hi hj hn => by
    rcases ss_ne i hi j hj hn with h | h
    · exact Or.inl (nr _ h)
    · exact Or.inr (nr _ h)) hA
  obtain ⟨fm, r, hfm, hv6⟩ : ∃ (fm : Option Nat) (r : Nat), (fm = none ∨ fm = some 30) ∧ v6 = va_rf (fm.map (fun _ => r)) := by
    cases v6 with
    | null => exact ⟨none, 0, Or.inl rfl, rfl⟩
    | ref r => exact ⟨some 30, r, Or.inr rfl, rfl⟩
    | _ => exact absurd r6 (by simp [Value.isRef])
  subst hv6
  obtain ⟨od, hod⟩ : ∃ od : Nat → Nat, od = fun a => if a = 0 then b else if a = 1 then t1 else if a = 2 then t2 else if a = 3 then t3 else if a = 4 then t4 else if a = 30 then r else if 10 ≤ a ∧ a < 19 then adK (a - 10) else adV (a - 20) := ⟨_, rfl⟩
  have o0 : od 0 = b := by rw [hod]; rfl
  have o1 : od 1 = t1 := by rw [hod]; rfl
  have o2 : od 2 = t2 := by rw [hod]; rfl
  have o3 : od 3 = t3 := by rw [hod]; rfl
  have o4 : od 4 = t4 := by rw [hod]; rfl
  have o30 : od 30 = r := by rw [hod]; rfl
  have oK : ∀ i, i < 9 → od (10 + i) = adK i := by
    intro i hi
    rw [hod]
    show (if 10 + i = 0 then b else if 10 + i = 1 then t1 else if 10 + i = 2 then t2 else if 10 + i = 3 then t3 else if 10 + i = 4 then t4 else if 10 + i = 30 then r else if 10 ≤ 10 + i ∧ 10 + i < 19 then adK (10 + i - 10) else adV (10 + i - 20)) = adK i
    rw [if_neg (by omega), if_neg (by omega), if_neg (by omega), if_neg (by omega), if_neg (by omega), if_neg (by omega), if_pos (by omega), show 10 + i - 10 = i by omega]
  have oV : ∀ i, i < 9 → od (20 + i) = adV i := by
    intro i hi
    rw [hod]
    show (if 20 + i = 0 then b else if 20 + i = 1 then t1 else if 20 + i = 2 then t2 else if 20 + i = 3 then t3 else if 20 + i = 4 then t4 else if 20 + i = 30 then r else if 10 ≤ 20 + i ∧ 20 + i < 19 then adK (20 + i - 10) else adV (20 + i - 20)) = adV i
    rw [if_neg (by omega), if_neg (by omega), if_neg (by omega), if_neg (by omega), if_neg (by omega), if_neg (by omega), if_neg (by omega), show 20 + i - 20 = i by omega]
  clear hod
  have a1 : al s.heap.size od 1 = t1 := by rw [al_old (by decide), o1]
  have a2 : al s.heap.size od 2 = t2 := by rw [al_old (by decide), o2]
  have a3 : al s.heap.size od 3 = t3 := by rw [al_old (by decide), o3]
  have a4 : al s.heap.size od 4 = t4 := by rw [al_old (by decide), o4]
  have v1 : stv s.heap.size od fm 200 = .ref t1 := by show va_rf (some (al s.heap.size od 1)) = _; rw [a1]; rfl
  have v2 : stv s.heap.size od fm 201 = .ref t2 := by show va_rf (some (al s.heap.size od 2)) = _; rw [a2]; rfl
  have v3 : stv s.heap.size od fm 202 = .ref t3 := by show va_rf (some (al s.heap.size od 3)) = _; rw [a3]; rfl
  have v4 : stv s.heap.size od fm 203 = .ref t4 := by show va_rf (some (al s.heap.size od 4)) = _; rw [a4]; rfl
  have v5 : stv s.heap.size od fm 204 = .int 1 := rfl
  have v6 : stv s.heap.size od fm 205 = va_rf (fm.map (fun _ => r)) := by
    show va_rf (fm.map (al s.heap.size od)) = _
    rcases hfm with h | h
    · rw [h]; rfl
    · rw [h]; show va_rf (some (al s.heap.size od 30)) = _; rw [al_old (by decide), o30]; rfl
  refine ⟨od, D, ca, fm, o0, hK, fun k hk => ?_, fun w hw hn => ?_, by rw [o0]; exact hX, by rw [o0]; exact hbl, fun j h1 h2 => ?_, fun f h1 h2 => ?_, ?_, fun i hi => ?_⟩
  · simp only [List.mem_cons, List.not_mem_nil, or_false] at hk
    rcases hk with rfl | rfl | rfl | rfl | rfl | rfl
    · exact va_AO.of (hts _ sa_2)
    · exact va_AO.of (hts _ sa_3)
    · exact va_AO.of (hts _ sa_4)
    · exact va_AO.of (hts _ sa_8)
    · exact va_AO.of (hts _ sa_9)
    · exact va_AO.of (hts _ sa_10)
  · have hb := hts w hw
    cases w <;> first | exact va_Nw.of rfl hb | (exact absurd hn (by simp [isNest]))
  · obtain rfl | rfl | rfl | rfl : j = 1 ∨ j = 2 ∨ j = 3 ∨ j = 4 := by omega
    · rw [o1]; exact T1
    · rw [o2]; exact T2
    · rw [o3]; exact T3
    · rw [o4]; exact T4
  · obtain rfl | rfl | rfl | rfl | rfl | rfl : f = 200 ∨ f = 201 ∨ f = 202 ∨ f = 203 ∨ f = 204 ∨ f = 205 := by omega
    · rw [v1]; exact Z1
    · rw [v2]; exact Z2
    · rw [v3]; exact Z3
    · rw [v4]; exact Z4
    · rw [v5]; exact Z5
    · rw [v6]; exact Z6
  · exact ⟨fun i hi => by simp only [oK i hi, oV i hi]; exact S.1 i hi, fun i j hi hj e => S.2 i j hi hj (by have e : od (10 + i) = od (10 + j) := e; rwa [oK i hi, oK j hj] at e)⟩
  · have hb := hts _ (ss_rf i hi)
    have he := hSe i hi
    rw [oK i hi]
    exact vk_R.of hb he
end ST
