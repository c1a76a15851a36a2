/-! ===== cells are made ===== -/
section CT
variable {w : WS} {I : Nat → Nat → Int32} {Q : Nat → Nat → Option Nat} {J : Nat → Nat → Int64} {K : Option Value → WS → HS → Prop}
theorem alc_old {s : Nat × Nat} {k a : Nat} (h : a ≤ w.2.1) : (alc w s k).1 a = w.1 a := by
  unfold alc u1
  dsimp only
  rw [if_neg (by omega)]
theorem alc_new {s : Nat × Nat} {k : Nat} : (alc w s k).1 (w.2.1 + 1) = s := by
  unfold alc u1
  dsimp only
  rw [if_pos rfl]
theorem k_row {a n : Nat} (hn : n < 1000) (ha : w.1 a = (5, 0)) (hal : a ≤ w.2.1) : WP mX5_init 0 [.ref a, .int (nI n)] [] w (I, Q, J) K ↔ K none (alc w (20, n) n) (u2 I a 1 0, u2 Q a 0 (some (w.2.1 + 1)), J) := by
  have e : (if (0 : Int32) < nI n then nI n else 0) = nI n := by
    by_cases h : 0 < n
    · rw [if_pos (show (0 : Int32) < nI n from nI_lt (a := 0) h (by omega))]
    · rw [show n = 0 by omega]; rfl
  simp only [rX5_init_0, rX5_init_1, rX5_init_4, rX5_init_5, rX5_init_6, rX5_init_7, rX5_init_10, rX5_init_12, rX5_init_15, rX5_init_16, rX5_init_17, rX5_init_20, e, nI_pos (show n < 2 ^ 31 by omega), nI_clamp (show n < 2 ^ 31 by omega), alc_old hal, ha, true_and, not_false_eq_true, show n ≤ 5000 by omega]
theorem k_rules {a : Nat} (ha : w.1 a = (6, 0)) (hal : a ≤ w.2.1) : WP mX6_init 0 [.ref a] [] w (I, Q, J) K ↔ K none (alc (alc w (20, 24) 24) (20, 24) 24) (u2 I a 2 0, u2 (u2 Q a 0 (some (w.2.1 + 1))) a 1 (some (w.2.1 + 2)), J) := by
  have h2 : ∀ s k, (alc w s k).2.1 = w.2.1 + 1 := fun _ _ => rfl
  have e24 : (24 : Int32).toNatClampNeg = 24 := by decide
  simp only [rX6_init_0, rX6_init_1, rX6_init_4, rX6_init_5, rX6_init_7, rX6_init_9, rX6_init_12, rX6_init_13, rX6_init_15, rX6_init_17, rX6_init_20, rX6_init_21, rX6_init_22, rX6_init_25, e24, show ¬ (24 : Int32) < 0 by decide, alc_old (show a ≤ (alc w (20, 24) 24).2.1 by rw [h2]; omega), alc_old hal, ha, true_and, not_false_eq_true, show 24 ≤ 5000 by decide, h2]
end CT
