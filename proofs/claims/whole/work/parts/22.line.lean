/-! ===== a line's colours ===== -/
/-- the cells of a line at b: itself, row b+1 (bytes b+2), colours b+3, modes b+4, state b+5 (pile b+6) -/
def lnOK (w : WS) (Q : Nat → Nat → Option Nat) (b : Nat) : Prop := w.1 b = (2, 0) ∧ Q b 0 = some (b + 1) ∧ Q b 1 = some (b + 3) ∧ Q b 2 = some (b + 4) ∧ Q b 3 = some (b + 5) ∧ rowOK w Q (b + 1) (b + 2) 30 ∧ w.1 (b + 3) = (20, 30) ∧ w.1 (b + 4) = (20, 30) ∧ stOK w Q (b + 5) (b + 6)
/-- bytes painted so far: each one's colour and mode -/
def ptIs (I : Nat → Nat → Int32) (b : Nat) (c : List (Int32 × Int32)) : Prop := ∀ j, j < c.length → I (b + 3) j = (c.getD j (0, 0)).1 ∧ I (b + 4) j = (c.getD j (0, 0)).2
theorem ptIs.fr {I I' : Nat → Nat → Int32} {b : Nat} {c : List (Int32 × Int32)} (h : ptIs I b c) (h3 : I' (b + 3) = I (b + 3)) (h4 : I' (b + 4) = I (b + 4)) : ptIs I' b c := fun j hj => by rw [h3, h4]; exact h j hj
section LN
variable {w : WS} {I : Nat → Nat → Int32} {Q : Nat → Nat → Option Nat} {J : Nat → Nat → Int64} {K : Option Value → WS → HS → Prop} {b : Nat} {l : List Int32}
theorem c_fill_loop {f t : Nat} {x y : Int32} (ok : lnOK w Q b) (hl : l.length ≤ 30) (ht : t ≤ l.length) : ∀ n i (I : Nat → Nat → Int32), n + i = t → f ≤ i → rowIs I (b + 1) (b + 2) l → ∃ I', Fr (fun c => c = b + 3 ∨ c = b + 4) I I' ∧ (∀ j, I' (b + 3) j = if i ≤ j ∧ j < t then x else I (b + 3) j) ∧ (∀ j, I' (b + 4) j = if i ≤ j ∧ j < t then y else I (b + 4) j) ∧ ∀ K, (WP mX2_fill 7 [.ref b, .int (nI f), .int (nI t), .int x, .int y, .int (nI i)] [] w (I, Q, J) K ↔ K (some (.int (nI t))) w (I', Q, J)) := by
  obtain ⟨o1, o2, o3, o4, o5, ⟨r1, r2, r3, r4, r5, r6⟩, o7, o8, o9⟩ := id ok
  intro n
  induction n with
  | zero =>
    intro i I hi hf r
    refine ⟨I, Fr.rf, fun j => ?_, fun j => ?_, fun K => ?_⟩
    · rw [if_neg (by omega)]
    · rw [if_neg (by omega)]
    · rw [rX2_fill_7]
      simp only [rX2_fill_0, rX2_fill_1, rX2_fill_2, rX2_fill_5, rX2_fill_9, rX2_fill_10, rX2_fill_13, rX2_fill_15, rX2_fill_16, rX2_fill_19, rX2_fill_22, rX2_fill_25, rX2_fill_26, rX2_fill_29, rX2_fill_31, rX2_fill_32, rX2_fill_33, rX2_fill_34, rX2_fill_37, rX2_fill_39, rX2_fill_41, rX2_fill_42, rX2_fill_45, rX2_fill_48, rX2_fill_49]
      rw [if_pos (nI_le (show t ≤ i by omega) (by omega))]
  | succ n ih =>
    intro i I hi hf r
    obtain ⟨I', g1, g2, g3, g4⟩ := ih (i + 1) (u2 (u2 I (b + 3) i x) (b + 4) i y) (by omega) (by omega) (r.fr ((Fr_u2 (b + 1) (by omega)).trans (Fr_u2 (b + 1) (by omega))) ((Fr_u2 (b + 2) (by omega)).trans (Fr_u2 (b + 2) (by omega))))
    refine ⟨I', ?_, fun j => ?_, fun j => ?_, fun K => ?_⟩
    · exact Fr.tr (Fr.tr (S := fun c => c = b + 3 ∨ c = b + 4) Fr_u2 Fr_u2 (fun c q => Or.inl q) (fun c q => Or.inr q)) g1 (fun c q => q) (fun c q => q)
    · rw [g2]
      by_cases e : j = i
      · subst e
        rw [if_neg (by omega), if_pos (by omega), u2_ne (Or.inl (by omega)), u2_same]
      · rw [u2_ne (Or.inl (by omega)), u2_ne (Or.inr e)]
        by_cases e2 : i + 1 ≤ j ∧ j < t
        · rw [if_pos e2, if_pos (by omega)]
        · rw [if_neg e2, if_neg (by omega)]
    · rw [g3]
      by_cases e : j = i
      · subst e
        rw [if_neg (by omega), if_pos (by omega), u2_same]
      · rw [u2_ne (Or.inr e), u2_ne (Or.inl (by omega))]
        by_cases e2 : i + 1 ≤ j ∧ j < t
        · rw [if_pos e2, if_pos (by omega)]
        · rw [if_neg e2, if_neg (by omega)]
    · rw [rX2_fill_7]
      simp only [rX2_fill_0, rX2_fill_1, rX2_fill_2, rX2_fill_5, rX2_fill_9, rX2_fill_10, rX2_fill_13, rX2_fill_15, rX2_fill_16, rX2_fill_19, rX2_fill_22, rX2_fill_25, rX2_fill_26, rX2_fill_29, rX2_fill_31, rX2_fill_32, rX2_fill_33, rX2_fill_34, rX2_fill_37, rX2_fill_39, rX2_fill_41, rX2_fill_42, rX2_fill_45, rX2_fill_48, rX2_fill_49, o1, o2, o3, o4, r1, r.1, o7, o8, true_and, rf_some, ne_eq, show ¬ b + 3 = 0 by omega, show ¬ b + 4 = 0 by omega, not_false_eq_true, vin_nI (show i < 30 by omega) (by decide), nI_clamp (show i < 2 ^ 31 by omega), nI_1]
      rw [if_neg (nI_ge (show i < t by omega) (by omega)), if_neg (nI_ge (show i < l.length by omega) (by omega))]
      exact g4 K
theorem c_fill {f t : Nat} {x y : Int32} (ok : lnOK w Q b) (r : rowIs I (b + 1) (b + 2) l) (hl : l.length ≤ 30) (ht : t ≤ l.length) (hf : f ≤ t) : ∃ I', Fr (fun c => c = b + 3 ∨ c = b + 4) I I' ∧ (∀ j, I' (b + 3) j = if f ≤ j ∧ j < t then x else I (b + 3) j) ∧ (∀ j, I' (b + 4) j = if f ≤ j ∧ j < t then y else I (b + 4) j) ∧ ∀ K, (WP mX2_fill 0 [.ref b, .int (nI f), .int (nI t), .int x, .int y, .null] [] w (I, Q, J) K ↔ K (some (.int (nI t))) w (I', Q, J)) := by
  obtain ⟨I', g1, g2, g3, g4⟩ := c_fill_loop (Q := Q) (J := J) (x := x) (y := y) ok hl ht (t - f) f I (by omega) (Nat.le_refl _) r
  refine ⟨I', g1, g2, g3, fun K => ?_⟩
  have e : (if (0 : Int32) < nI f then nI f else 0) = nI f := by
    by_cases h0 : f = 0
    · subst h0; rfl
    · rw [if_pos (show (0 : Int32) < nI f from nI_lt (a := 0) (by omega) (by omega))]
  simp only [rX2_fill_0, rX2_fill_1, rX2_fill_2, rX2_fill_5, rX2_fill_9, rX2_fill_10, rX2_fill_13, rX2_fill_15, rX2_fill_16, rX2_fill_19, rX2_fill_22, rX2_fill_25, rX2_fill_26, rX2_fill_29, rX2_fill_31, rX2_fill_32, rX2_fill_33, rX2_fill_34, rX2_fill_37, rX2_fill_39, rX2_fill_41, rX2_fill_42, rX2_fill_45, rX2_fill_48, rX2_fill_49, e]
  exact g4 K
/-- painting one stretch behind what is painted -/
theorem c_fillPt {f t : Nat} {x y : Int32} {c : List (Int32 × Int32)} (ok : lnOK w Q b) (r : rowIs I (b + 1) (b + 2) l) (hl : l.length ≤ 30) (ht : t ≤ l.length) (hf : f ≤ t) (hc : c.length = f) (pt : ptIs I b c) : ∃ I', Fr (fun c => c = b + 3 ∨ c = b + 4) I I' ∧ ptIs I' b (c ++ List.replicate (t - f) (x, y)) ∧ ∀ K, (WP mX2_fill 0 [.ref b, .int (nI f), .int (nI t), .int x, .int y, .null] [] w (I, Q, J) K ↔ K (some (.int (nI t))) w (I', Q, J)) := by
  obtain ⟨I', g1, g2, g3, g4⟩ := c_fill (Q := Q) (J := J) (x := x) (y := y) ok r hl ht hf
  refine ⟨I', g1, fun j hj => ?_, g4⟩
  have hj : j < t := by simp at hj; omega
  rw [g2, g3, List.getD_eq_getElem?_getD]
  by_cases e : j < f
  · rw [if_neg (by omega), if_neg (by omega), List.getElem?_append_left (by omega), ← List.getD_eq_getElem?_getD]
    exact pt j (by omega)
  · rw [if_pos (by omega), if_pos (by omega), List.getElem?_append_right (by omega), List.getElem?_replicate, if_pos (by omega)]
    exact ⟨rfl, rfl⟩
end LN
