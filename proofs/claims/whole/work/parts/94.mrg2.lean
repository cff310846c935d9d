/-! TWO HEAPS AS ONE, more stores -/
theorem mrg_sQ {h g : Hp} {a i : Nat} {v : Option Nat} : mrg (sQ h a i v) g = sQ (mrg h g) a i v := by
  refine hp_ext (by rw [xN_mrg, xN_sQ, xN_sQ, xN_mrg]) (by rw [xU_mrg, xU_sQ, xU_sQ, xU_mrg]) (by rw [xS_mrg, xS_sQ, xS_sQ, xS_mrg]) ?_ (by rw [xG_mrg, xG_sQ, xG_sQ, xG_mrg]) ?_ ?_
  · funext k x; rw [hF_mrg, xF_sQ, xF_sQ, hF_mrg]
  · funext x j; rw [hE_mrg, xE_sQ, xE_sQ, hE_mrg]
  · funext x j; rw [xQ_mrg, hQ_sQ, hQ_sQ, xQ_mrg]
theorem mrg_nw {h g : Hp} {c l s : Nat} (hn : 151 ≤ hN h) : mrg (nw h c l s) g = nw (mrg h g) c l s := by
  refine hp_ext (by rw [xN_mrg, hN_nw, hN_nw, xN_mrg]) (by rw [xU_mrg, hU_nw, hU_nw, xU_mrg]) ?_ ?_ ?_ ?_ ?_
  · funext x; rw [xS_mrg, hS_nw, hS_nw, xS_mrg, xN_mrg]
  · funext k x; rw [hF_mrg, hF_nw, hF_nw, hF_mrg, xN_mrg]
    by_cases e : x = 103
    · rw [if_pos e, if_neg (by omega), if_pos e]
    · rw [if_neg e, if_neg e]
  · funext k x; rw [xG_mrg, hG_nw, hG_nw, xG_mrg, xN_mrg]
  · funext x j; rw [hE_mrg, hE_nw, hE_nw, hE_mrg, xN_mrg]
    by_cases e : 104 ≤ x ∧ x < 151
    · rw [if_pos e, if_neg (by omega), if_pos e]
    · rw [if_neg e, if_neg e]
  · funext x j; rw [xQ_mrg, hQ_nw, hQ_nw, xQ_mrg, xN_mrg]
theorem mrg_nSa {h g : Hp} {n c b : Int32} (hn : 151 ≤ hN h) : mrg (nSa h n c b) g = nSa (mrg h g) n c b := by
  unfold nSa
  rw [mrg_sF (by omega), mrg_sF (by omega), mrg_sF (by omega), mrg_sF (by omega), mrg_sF (by omega), mrg_sF (by omega), mrg_sF (by omega), mrg_nw hn, xN_mrg]
