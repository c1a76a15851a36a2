/-! ===== cells are made ===== -/
/-- from cell a, the newest one: n more were made, with m places; all else is as it was -/
def MK (a n m : Nat) (w w' : WS) (I I' : Nat → Nat → Int32) (Q Q' : Nat → Nat → Option Nat) : Prop := w'.2.1 = a + n ∧ w'.2.2 = w.2.2 + m ∧ (∀ c, c ≤ a → w'.1 c = w.1 c) ∧ ∀ c, c < a ∨ a + n < c → I' c = I c ∧ Q' c = Q c
def frsh (a : Nat) (I : Nat → Nat → Int32) : Prop := ∀ c j, a < c → I c j = 0
theorem MK.fr {a n m : Nat} {w w' : WS} {I I' : Nat → Nat → Int32} {Q Q' : Nat → Nat → Option Nat} (h : MK a n m w w' I I' Q Q') (f : frsh a I) : frsh (a + n) I' := fun c j hc => by rw [(h.2.2.2 c (Or.inr hc)).1]; exact f c j (by omega)
section CT
variable {w : WS} {I : Nat → Nat → Int32} {Q : Nat → Nat → Option Nat} {J : Nat → Nat → Int64} {K : Option Value → WS → HS → Prop}
theorem alc_old {s : Nat × Nat} {k a : Nat} (h : a ≤ w.2.1) : (alc w s k).1 a = w.1 a := by
  unfold alc u1
  dsimp only
  rw [if_neg (by omega)]
theorem alc_new {s : Nat × Nat} {k a : Nat} (h : a = w.2.1 + 1) : (alc w s k).1 a = s := by
  unfold alc u1
  dsimp only
  rw [if_pos h]
theorem alc_top {s : Nat × Nat} {k : Nat} : (alc w s k).2.1 = w.2.1 + 1 := rfl
theorem alc_siz {s : Nat × Nat} {k : Nat} : (alc w s k).2.2 = w.2.2 + k := rfl
theorem K_row {a n : Nat} (hn : n < 1000) (ha : w.1 a = (5, 0)) (ht : w.2.1 = a) : ∃ w' I' Q', MK a 1 n w w' I I' Q Q' ∧ rowOK w' Q' a (a + 1) n ∧ rowIs I' a (a + 1) [] ∧ ∀ K, (WP mX5_init 0 [.ref a, .int (nI n)] [] w (I, Q, J) K ↔ K none w' (I', Q', J)) := by
  have e : (if (0 : Int32) < nI n then nI n else 0) = nI n := by
    by_cases h : 0 < n
    · rw [if_pos (show (0 : Int32) < nI n from nI_lt (a := 0) h (by omega))]
    · rw [show n = 0 by omega]; rfl
  refine ⟨alc w (20, n) n, u2 I a 1 0, u2 Q a 0 (some (a + 1)), ⟨by rw [alc_top, ht], alc_siz, fun c hc => alc_old (by omega), fun c hc => ⟨Fr_u2 c (by omega), ?_⟩⟩, ⟨by rw [alc_old (by omega)]; exact ha, u2_same, alc_new (by omega), by omega, by omega, hn⟩, ⟨u2_same, fun j hj => by simp at hj⟩, fun K => ?_⟩
  · funext j
    exact u2_ne (Or.inl (by omega))
  · simp only [rX5_init_0, rX5_init_1, rX5_init_4, rX5_init_5, rX5_init_6, rX5_init_7, rX5_init_10, rX5_init_12, rX5_init_15, rX5_init_16, rX5_init_17, rX5_init_20, e, nI_pos (show n < 2 ^ 31 by omega), nI_clamp (show n < 2 ^ 31 by omega), alc_old (show a ≤ w.2.1 by omega), ha, ht, true_and, not_false_eq_true, show n ≤ 5000 by omega]
end CT
