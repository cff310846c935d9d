/-! SOUNDNESS, 5: the old cells, the context (written by wip/whole/mk14.py) -/
def statV : List (List Int32) := [[-1, 0, 0, 0, 3, 0], [60, 60, 30, 90, 90, 0], [0, 0, 0, 15, 45, 0], [10, 11, 12, 13, 0, 0, 20, 21, 30, 0, 0, 0, 0, 40, 0, 0, 0, 51, 50, 0, 0, 0, 0, 60]]
def strLen : List Nat := [4, 4, 3, 2, 3, 7, 5, 4, 4]
def strByt : List (List Int32) := [[116, 97, 107, 101], [119, 104, 101, 110], [97, 110, 100], [111, 114], [110, 111, 116], [115, 116, 97, 116, 105, 111, 110], [100, 101, 112, 116, 104], [108, 101, 102, 116], [104, 111, 117, 114]]
def strIx : List Nat := [98, 104, 106, 108, 110, 112, 114, 116, 118]
def s0S (L a : Nat) : Nat × Nat := if a = 0 then (200, L) else if a ≤ 3 then (200, 6) else if a = 4 then (200, 24) else if 10 ≤ a ∧ a < 19 then (13, 0) else if 20 ≤ a ∧ a < 29 then (202, strLen.getD (a - 20) 0) else (0, 0)
def s0E (xs : Nat → Int32) (a : Nat) : Nat → Int32 := if a = 0 then xs else if a ≤ 4 then fun i => (statV.getD (a - 1) []).getD i 0 else if 20 ≤ a ∧ a < 29 then fun i => (strByt.getD (a - 20) []).getD i 0 else fun _ => 0
def s0F (k a : Nat) : Int32 := if k = 204 ∧ a = 0 then 1 else 0
def s0G (fm : Option Nat) (k a : Nat) : Option Nat := if a = 0 then (if k = 200 then some 1 else if k = 201 then some 2 else if k = 202 then some 3 else if k = 203 then some 4 else if k = 205 then fm else none) else if k = 160 ∧ 10 ≤ a ∧ a < 19 then some (a + 10) else none
/-- the heap at the law's beginning: the script, the static rows, the texts -/
def hp0 (L : Nat) (xs : Nat → Int32) (fm : Option Nat) : Hp := (64, 0, s0S L, s0F, s0G fm, s0E xs, fun _ _ => none)
theorem Z0_hp0 (L : Nat) (xs : Nat → Int32) (fm : Option Nat) : Z0 (hp0 L xs fm) := by
  intro a _
  show (s0S L a).1 = 0 ∨ (s0S L a).1 = 13 ∨ (s0S L a).1 = 200 ∨ (s0S L a).1 = 202
  unfold s0S
  repeat' split
  all_goals simp
abbrev Cxt : Type := Program × Launch × Env × Room × State × MethodId × Array Value × List Frame × Method × Code × (State → Prop)
abbrev Par : Type := Nat × (Nat → Nat) × va_G × (Nat → ClassId) × Nat × (Nat → Int32) × Option Nat
def gw : List Cond := lw_tbl.filter goodWord
def isNest : Cond → Bool
  | .fieldLinkNest _ _ _ _ _ _ => true
  | .methodLinkNest _ _ _ _ => true
  | _ => false
def tysL (ca : Nat → ClassId) : List (ClassId × FieldType) := [(ca 100, .int), (ca 101, .boolean), (ca 302, .object (cnm 2)), (ca 303, .object (cnm 3)), (ca 304, .object (cnm 4)), (ca 308, .object (cnm 8)), (ca 309, .object (cnm 9)), (ca 310, .object (cnm 10))]
def stv (base : Nat) (od : Nat → Nat) (fm : Option Nat) (f : Nat) : Value := if statT.getD (f - 200) 9 = 2 then va_rf ((s0G fm f 0).map (al base od)) else .int (s0F f 0)
def Glob (P : Par) (s : State) (H : Heap) : Prop := match P with
  | (base, od, D, ca, L, xs, fm) => va_K D clsL (tysL ca) s ∧ (∀ k, k ∈ [302, 303, 304, 308, 309, 310] → va_AO (cnm (k - 300)) s) ∧ (∀ w, w ∈ lw_tbl → isNest w = true → va_Nw w s) ∧ va_X (od 0) L xs s H ∧ od 0 < base ∧
    (∀ j, 1 ≤ j → j ≤ 4 → va_T .int (od j) (s0S L j).2 (fun i => .int (s0E xs j i)) (fun q => base ≤ q) s H) ∧
    (∀ f, 200 ≤ f → f < 206 → va_Z (stats.getD (f - 200) ("", "", "")).1 (stats.getD (f - 200) ("", "", "")).2.1 (stats.getD (f - 200) ("", "", "")).2.2 (stv base od fm f) (fun q => base ≤ q) s H) ∧
    vk_S 9 strLen strByt (fun i => od (10 + i)) (fun i => od (20 + i)) (fun q => base ≤ q) s H ∧ (∀ i, i < 9 → vk_R "WaterCruise$LineReader" (strIx.getD i 0) (strT.getD i "") (od (10 + i)) s)
theorem va_Nw.warm {w : Cond} (hn : isNest w = true) {s U : State} (hW : s.WarmedH U.vm) (h : va_Nw w s) : va_Nw w U := by
  cases w <;> first | exact va_Nw.warmF hW h | exact va_Nw.warmM hW h | (exact absurd hn (by simp [isNest]))
theorem Glob.moved {P : Par} {s U : State} {H H1 : Heap} (hW : s.WarmedH U.vm) (hz : H.size ≤ H1.size) (hq : ∀ q : Nat, q < H.size → ¬ P.1 ≤ q → H1[q]? = H[q]?) (hs : P.1 ≤ H.size) (h : Glob P s H) : Glob P U H1 := by
  obtain ⟨base, od, D, ca, L, xs, fm⟩ := P
  obtain ⟨h1, h2, h3, h4, h5, h6, h7, h8, h9⟩ := h
  refine ⟨h1.moved hW.alike, fun k hk => (h2 k hk).moved hW.alike, fun w hw hn => va_Nw.warm hn hW (h3 w hw hn), ?_, h5, fun j a b => (va_T.moved hW.alike (h6 j a b)).kept hq, fun f a b => (va_Z.moved hW.alike (h7 f a b)).kept hq, (vk_S.moved hW.alike h8).kept hq, fun i hi => (h9 i hi).warm hW⟩
  refine va_X.kept (va_X.moved hW.alike h4) ?_
  exact hq (od 0) (Nat.lt_of_lt_of_le h5 hs) (Nat.not_le.mpr h5)
def Rp (P : Par) (h : Hp) (H : Heap) : Prop := match P with
  | (base, od, D, ca, _, _, _) => va_P D clsL (wsH base (al base od) ca h) H
def pco : List Op → Nat
  | [] => 0
  | o :: _ => o.1
def hq0 (P : Par) : Hp := match P with
  | (_, _, _, _, L, xs, fm) => hp0 L xs fm
def GoW (X : Cxt) (P : Par) (n0 u0 y : Nat) (ops : List Op) (ls : LV) (st : List AV) (h : Hp) : Prop := match X with
  | (p, l, e, R, s, m, args, below, meth, c, Q) => ∀ (H : Heap) (locs : List Loc) (lsA : Array Slot), Rp P h H → va_S (fun q => P.1 ≤ q) s.heap H locs → lrel (al P.1 P.2.1) (mxl y) ls lsA → W p l e R s m args below meth c H locs (hN h - n0) (hU h - u0) Q (F0 m (pco ops) lsA (st.map (cv (al P.1 P.2.1))))
/-- the context of a method's body -/
def Cx (X : Cxt) (P : Par) (y d n0 : Nat) : Prop := match X with
  | (p, _, _, R, s, m, args, _, meth, c, _) => p.tables.exec = Jvm.exec ∧ c.code = mB y ∧ c.maxLocals = mxl y ∧ s.vm.findClass (mN y).cls = some m.cls ∧ (∀ w ∈ gw, w.before args s = true) ∧ meth.name = (mN y).name ∧ Glob P s s.heap ∧ (64 ≤ n0 ∧ s.heap.size = P.1 + (n0 - 64)) ∧ d ≤ R.frames ∧ 100 * d ≤ R.locals
theorem chk_next {y pc : Nat} {i : Instr} {lk : List Nat} {z : Int} {ops : List Op} (hk : chkL y ((pc, i, lk, z) :: ops) = true) (ht : chkT y pc i lk = false) : decode (mB y) pc = .ok (i, iln i) ∧ pco ops = pc + iln i ∧ lkc y pc i lk z = true ∧ chkL y ops = true := by
  unfold chkL at hk
  cases ops with
  | nil => simp only [ht, Bool.false_and] at hk; exact absurd hk (by decide)
  | cons o ops =>
    simp only [chkS, Bool.and_eq_true, decide_eq_true_eq, List.isEmpty_cons, Bool.false_or] at hk
    exact ⟨hk.1.1.1, hk.1.1.2, hk.1.2, hk.2⟩
theorem chk_last {y pc : Nat} {i : Instr} {lk : List Nat} {z : Int} {ops : List Op} (hk : chkL y ((pc, i, lk, z) :: ops) = true) (ht : lkc y pc i lk z = false) : chkT y pc i lk = true := by
  unfold chkL at hk
  cases ops with
  | nil => simp only [Bool.and_eq_true] at hk; exact hk.1
  | cons o ops =>
    simp only [chkS, ht, Bool.and_false, Bool.false_and] at hk
    exact absurd hk (by decide)
theorem wd_in {p : Nat} {w : Cond} (h : wd p w = true) : w ∈ gw := by
  simp only [wd, Bool.and_eq_true, decide_eq_true_eq] at h
  exact List.mem_filter.mpr ⟨List.mem_of_getElem? h.1, h.2⟩
theorem wdN_in {p : Nat} {w : Cond} (h : wdN p w = true) : w ∈ lw_tbl := by
  simp only [wdN, decide_eq_true_eq] at h
  exact List.mem_of_getElem? h
theorem blk_chk {y b : Nat} (hy : y < nMeth) (hb : b < (mth y).1.length) : chkL y (blk y b) = true := by
  have := List.all_eq_true.mp (ck_all y hy)
  refine this _ ?_
  unfold blk
  rw [List.getD_eq_getElem?_getD, List.getElem?_eq_getElem hb]
  exact List.getElem_mem hb
theorem pco_blk (y b : Nat) : pco (blk y b) = fpc y b := by
  unfold fpc pco; cases blk y b <;> rfl
