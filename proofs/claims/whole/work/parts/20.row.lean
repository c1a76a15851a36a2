/-! ===== small facts ===== -/
theorem rf_some (a : Nat) : va_rf (some a) = Value.ref a := rfl
theorem tl_some (v : Value) (r : List Value) : (some v).toList ++ r = v :: r := rfl
theorem tl_none (r : List Value) : (none : Option Value).toList ++ r = r := rfl
theorem vin_nI {n N : Nat} (h : n < N) (hN : N < 2 ^ 31) : vin (nI n) N := ⟨nI_pos (by omega), by rw [nI_clamp (by omega)]; exact h⟩
theorem cl0 : (0 : Int32).toNatClampNeg = 0 := by decide
theorem cl1 : (1 : Int32).toNatClampNeg = 1 := by decide
theorem u2_same {α : Type} {f : Nat → Nat → α} {a k : Nat} {v : α} : u2 f a k v a k = v := by simp [u2]
theorem u2_ne {α : Type} {f : Nat → Nat → α} {a k b j : Nat} {v : α} (h : b ≠ a ∨ j ≠ k) : u2 f a k v b j = f b j := by
  simp only [u2]; rw [if_neg]; omega
theorem uA_same {α : Type} {f : Nat → Nat → α} {a j : Nat} {g : Nat → α} : uA f a g a j = g j := by simp [uA]
theorem uA_ne {α : Type} {f : Nat → Nat → α} {a b j : Nat} {g : Nat → α} (h : b ≠ a) : uA f a g b j = f b j := by simp [uA, h]
/-- a row of bytes at a (its bytes at s), with room for N -/
def rowOK (w : WS) (h : HS) (a s N : Nat) : Prop := w.1 a = (5, 0) ∧ h.2.1 a 0 = some s ∧ w.1 s = (20, N) ∧ s ≠ 0 ∧ s ≠ a ∧ N < 1000
def rowIs (I : Nat → Nat → Int32) (a s : Nat) (l : List Int32) : Prop := I a 1 = nI l.length ∧ ∀ j, j < l.length → I s j = l.getD j 0
theorem c_signAt {w : WS} {h : HS} {a s N i : Nat} {l : List Int32} {K : Option Value → WS → HS → Prop} (ok : rowOK w h a s N) (r : rowIs h.1 a s l) (hN : l.length ≤ N) (hi : i < 2000) : WP mX5_signAt 0 [.ref a, .int (nI i)] [] w h K ↔ K (some (.int (if i < l.length then l.getD i 0 else -1))) w h := by
  obtain ⟨o1, o2, o3, o4, o5, o6⟩ := ok
  simp only [rX5_signAt_0, rX5_signAt_1, rX5_signAt_4, rX5_signAt_5, rX5_signAt_6, rX5_signAt_9, rX5_signAt_12, rX5_signAt_13, rX5_signAt_16, rX5_signAt_17, rX5_signAt_18, rX5_signAt_21, rX5_signAt_22, o1, o2, o3, rf_some, r.1, true_and, nI_pos (show i < 2 ^ 31 by omega), if_false]
  by_cases hl : i < l.length
  · rw [if_neg (nI_ge hl (by omega)), if_pos hl]
    simp only [vin_nI (show i < N by omega) (by omega), true_and, nI_clamp (show i < 2 ^ 31 by omega), r.2 i hl]
  · rw [if_pos (nI_le (by omega) (by omega)), if_neg hl]
