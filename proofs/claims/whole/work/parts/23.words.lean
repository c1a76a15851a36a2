/-! ===== words, rules ===== -/
/-- the words at a: rows at r0, r0 + 2 .. (bytes behind each), the array of rows at q -/
def wdOK (w : WS) (Q : Nat → Nat → Option Nat) (a q r0 : Nat) : Prop := w.1 a = (8, 0) ∧ Q a 0 = some q ∧ w.1 q = (22, 4) ∧ (∀ k, k < 4 → Q q k = some (r0 + 2 * k) ∧ rowOK w Q (r0 + 2 * k) (r0 + 2 * k + 1) 5) ∧ a < r0 ∧ q < r0
def wdIs (I : Nat → Nat → Int32) (a r0 : Nat) (W : List (List Int32)) : Prop := I a 1 = nI W.length ∧ ∀ k, k < W.length → rowIs I (r0 + 2 * k) (r0 + 2 * k + 1) (W.getD k [])
def wdV (W : List (List Int32)) : Prop := W.length ≤ 4 ∧ ∀ k, k < W.length → 1 ≤ (W.getD k []).length ∧ (W.getD k []).length ≤ 5
theorem wdIs.fr {I I' : Nat → Nat → Int32} {a r0 : Nat} {W : List (List Int32)} (h : wdIs I a r0 W) (hW : W.length ≤ 4) (ha : I' a = I a) (hr : ∀ c, r0 ≤ c → c < r0 + 8 → I' c = I c) : wdIs I' a r0 W := ⟨by rw [ha]; exact h.1, fun k hk => (h.2 k hk).fr (hr _ (by omega) (by omega)) (hr _ (by omega) (by omega))⟩
section WD
variable {w : WS} {I : Nat → Nat → Int32} {Q : Nat → Nat → Option Nat} {J : Nat → Nat → Int64} {K : Option Value → WS → HS → Prop} {a q r0 b s N : Nat} {W : List (List Int32)} {l : List Int32}
/-- whether the bytes f .. t - 1 of l are one of the words -/
def hasW (W : List (List Int32)) (v : List Int32) : Nat → Nat → Bool
  | 0, _ => false
  | n + 1, k => if v = W.getD k [] then true else hasW W v n (k + 1)
theorem c_has_loop {f t : Nat} (ok : wdOK w Q a q r0) (r : wdIs I a r0 W) (hW : wdV W) (ok2 : rowOK w Q b s N) (r2 : rowIs I b s l) (hN : l.length ≤ N) (hf : f ≤ t) (ht : t ≤ l.length) : ∀ n k, n + k = W.length → (WP mX8_has 3 [.ref a, .ref b, .int (nI f), .int (nI t), .int (nI k)] [] w (I, Q, J) K ↔ K (some (.int (if hasW W ((l.drop f).take (t - f)) n k then 1 else 0))) w (I, Q, J)) := by
  obtain ⟨o1, o2, o3, o4, o5, o6⟩ := id ok
  obtain ⟨W4, W5⟩ := id hW
  intro n
  induction n with
  | zero =>
    intro k hk
    rw [rX8_has_3]
    simp only [rX8_has_0, rX8_has_1, rX8_has_5, rX8_has_6, rX8_has_9, rX8_has_12, rX8_has_13, rX8_has_14, rX8_has_17, rX8_has_19, rX8_has_20, rX8_has_21, rX8_has_22, rX8_has_25, rX8_has_28, rX8_has_29, rX8_has_30, rX8_has_33, rX8_has_36, rX8_has_37, o1, r.1, true_and]
    rw [if_pos (nI_le (show W.length ≤ k by omega) (by omega))]
    simp [hasW]
  | succ n ih =>
    intro k hk
    have hk4 : k < 4 := by omega
    rw [rX8_has_3]
    simp only [rX8_has_0, rX8_has_1, rX8_has_5, rX8_has_6, rX8_has_9, rX8_has_12, rX8_has_13, rX8_has_14, rX8_has_17, rX8_has_19, rX8_has_20, rX8_has_21, rX8_has_22, rX8_has_25, rX8_has_28, rX8_has_29, rX8_has_30, rX8_has_33, rX8_has_36, rX8_has_37, o1, o2, o3, r.1, true_and, rf_some, vin_nI hk4 (by decide), nI_clamp (show k < 2 ^ 31 by omega), (o4 k hk4).1, ok2.1, or_true, true_or]
    rw [if_neg (nI_ge (show k < W.length by omega) (by omega)), c_holds ok2 r2 hN (o4 k hk4).2 (r.2 k (by omega)) (W5 k (by omega)).2 hf ht]
    simp only [tl_some, rX8_has_0, rX8_has_1, rX8_has_5, rX8_has_6, rX8_has_9, rX8_has_12, rX8_has_13, rX8_has_14, rX8_has_17, rX8_has_19, rX8_has_20, rX8_has_21, rX8_has_22, rX8_has_25, rX8_has_28, rX8_has_29, rX8_has_30, rX8_has_33, rX8_has_36, rX8_has_37, nI_1, hasW]
    by_cases e : (l.drop f).take (t - f) = W.getD k []
    · rw [if_pos e, if_neg (by decide), if_pos e]; simp
    · rw [if_neg e, if_pos rfl, ih (k + 1) (by omega), if_neg e]
theorem c_has {f t : Nat} (ok : wdOK w Q a q r0) (r : wdIs I a r0 W) (hW : wdV W) (ok2 : rowOK w Q b s N) (r2 : rowIs I b s l) (hN : l.length ≤ N) (hf : f ≤ t) (ht : t ≤ l.length) : WP mX8_has 0 [.ref a, .ref b, .int (nI f), .int (nI t), .null] [] w (I, Q, J) K ↔ K (some (.int (if hasW W ((l.drop f).take (t - f)) W.length 0 then 1 else 0))) w (I, Q, J) := by
  have := c_has_loop (K := K) (J := J) ok r hW ok2 r2 hN hf ht W.length 0 (by omega)
  rw [nI_0] at this
  simp only [rX8_has_0, rX8_has_1, rX8_has_5, rX8_has_6, rX8_has_9, rX8_has_12, rX8_has_13, rX8_has_14, rX8_has_17, rX8_has_19, rX8_has_20, rX8_has_21, rX8_has_22, rX8_has_25, rX8_has_28, rX8_has_29, rX8_has_30, rX8_has_33, rX8_has_36, rX8_has_37]
  exact this
end WD
