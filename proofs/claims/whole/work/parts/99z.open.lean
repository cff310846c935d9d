/-! NOT YET PROVED -/
theorem op_lines {d k : Nat} {h : Hp} {n : Int32} (I : Inv k h) : Wc (d + 60) 88 [.inr (.inr (some 64)), .inl n] h (fun r h1 => Wc (d + 60) 165 [.inr (.inr (some 103)), .inl n] h1 (fun r2 h2 => Ow k r r2 h2)) := by
  sorry
theorem op_plan {d k : Nat} {h : Hp} {n : Int32} (I : Inv k h) : Wc (d + 60) 69 [.inr (.inr (some 64)), .inl n] h (fun r h1 => Wc (d + 60) 190 [.inr (.inr (some 103)), .inl n] h1 (fun r2 h2 => Ow k r r2 h2)) := by
  sorry
theorem op_planned {d k : Nat} {h : Hp} {n w : Int32} (I : Inv k h) : Wc (d + 60) 70 [.inr (.inr (some 64)), .inl n, .inl w] h (fun r h1 => Wc (d + 60) 191 [.inr (.inr (some 103)), .inl n, .inl w] h1 (fun r2 h2 => Ow k r r2 h2)) := by
  sorry
