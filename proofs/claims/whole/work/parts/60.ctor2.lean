section CU
variable {w : WS} {I : Nat → Nat → Int32} {Q : Nat → Nat → Option Nat} {J : Nat → Nat → Int64} {K : Option Value → WS → HS → Prop}
theorem K_rules {a : Nat} (ha : w.1 a = (6, 0)) (ht : w.2.1 = a) (ha0 : 1 ≤ a) (f : frsh a I) : ∃ w' I' Q', MK a 2 48 w w' I I' Q Q' ∧ rlOK w' Q' a (a + 1) (a + 2) ∧ rlIs I' a (a + 1) (a + 2) [] ∧ ∀ K, (WP mX6_init 0 [.ref a] [] w (I, Q, J) K ↔ K none w' (I', Q', J)) := by
  have e24 : (24 : Int32).toNatClampNeg = 24 := by decide
  have h2 : (alc w (20, 24) 24).2.1 = a + 1 := by rw [alc_top, ht]
  refine ⟨alc (alc w (20, 24) 24) (20, 24) 24, u2 I a 2 0, u2 (u2 Q a 0 (some (a + 1))) a 1 (some (a + 2)), ⟨by rw [alc_top, h2], by rw [alc_siz, alc_siz], fun c hc => by rw [alc_old (by omega), alc_old (by omega)], fun c hc => ⟨Fr_u2 c (by omega), ?_⟩⟩, ⟨by rw [alc_old (by omega), alc_old (by omega)]; exact ha, by rw [u2_ne (Or.inr (by decide)), u2_same], u2_same, by rw [alc_old (by omega), alc_new (by omega)], alc_new (by omega), by omega, by omega, by omega, by omega, by omega⟩, ⟨u2_same, fun c hc m hm => ⟨?_, ?_⟩⟩, fun K => ?_⟩
  · funext j
    rw [u2_ne (Or.inl (by omega)), u2_ne (Or.inl (by omega))]
  · rw [u2_ne (Or.inl (by omega))]; exact f _ _ (by omega)
  · rw [u2_ne (Or.inl (by omega))]; exact f _ _ (by omega)
  · simp only [rX6_init_0, rX6_init_1, rX6_init_4, rX6_init_5, rX6_init_7, rX6_init_9, rX6_init_12, rX6_init_13, rX6_init_15, rX6_init_17, rX6_init_20, rX6_init_21, rX6_init_22, rX6_init_25, e24, show ¬ (24 : Int32) < 0 by decide, alc_old (show a ≤ (alc w (20, 24) 24).2.1 by omega), alc_old (show a ≤ w.2.1 by omega), ha, ht, h2, true_and, not_false_eq_true, show 24 ≤ 5000 by decide]
theorem K_state {a : Nat} (ha : w.1 a = (7, 0)) (ht : w.2.1 = a) : ∃ w' I' Q', MK a 1 6 w w' I I' Q Q' ∧ stOK w' Q' a (a + 1) ∧ ∀ K, (WP mX7_init 0 [.ref a] [] w (I, Q, J) K ↔ K none w' (I', Q', J)) := by
  have e6 : (6 : Int32).toNatClampNeg = 6 := by decide
  have ok : stOK (alc w (20, 6) 6) (u2 Q a 0 (some (a + 1))) a (a + 1) := ⟨by rw [alc_old (by omega)]; exact ha, u2_same, alc_new (by omega), by omega, by omega⟩
  obtain ⟨I', g1, g2, g3⟩ := c_stBegin (I := I) (J := J) ok
  refine ⟨alc w (20, 6) 6, I', u2 Q a 0 (some (a + 1)), ⟨by rw [alc_top, ht], alc_siz, fun c hc => alc_old (by omega), fun c hc => ⟨g2 c (by omega), ?_⟩⟩, ok, fun K => ?_⟩
  · funext j
    exact u2_ne (Or.inl (by omega))
  · simp only [rX7_init_0, rX7_init_1, rX7_init_4, rX7_init_5, rX7_init_7, rX7_init_9, rX7_init_12, rX7_init_13, e6, show ¬ (6 : Int32) < 0 by decide, alc_old (show a ≤ w.2.1 by omega), ha, ht, true_and, not_false_eq_true, show 6 ≤ 5000 by decide]
    rw [g3]
    simp only [tl_none, rX7_init_16]
theorem K_words_loop {a b : Nat} (hb : b = a + 1) : ∀ n k (w : WS) (I : Nat → Nat → Int32) (Q : Nat → Nat → Option Nat), n + k = 4 → w.1 a = (8, 0) → w.1 b = (22, 4) → Q a 0 = some b → w.2.1 = a + 1 + 2 * k → (∀ j, j < k → Q b j = some (a + 2 + 2 * j) ∧ rowOK w Q (a + 2 + 2 * j) (a + 2 + 2 * j + 1) 5) → ∃ w' I' Q', (w'.2.1 = a + 9 ∧ w'.2.2 = w.2.2 + 7 * n ∧ (∀ c, c ≤ a + 1 → w'.1 c = w.1 c) ∧ ∀ c, c < b ∨ a + 9 < c → I' c = I c ∧ Q' c = Q c) ∧ (∀ j, j < 4 → Q' b j = some (a + 2 + 2 * j) ∧ rowOK w' Q' (a + 2 + 2 * j) (a + 2 + 2 * j + 1) 5) ∧ ∀ K, (WP mX8_init 14 [.ref a, .int (nI k)] [] w (I, Q, J) K ↔ WP mX8_init 39 [.ref a, .int (nI 4)] [] w' (I', Q', J) K) := by
  intro n
  induction n with
  | zero =>
    intro k w I Q hk h1 h2 h3 h4 h5
    have : k = 4 := by omega
    subst this
    refine ⟨w, I, Q, ⟨by omega, by omega, fun _ _ => rfl, fun _ _ => ⟨rfl, rfl⟩⟩, h5, fun K => ?_⟩
    rw [rX8_init_14]
    simp only [rX8_init_15, rX8_init_16]
    rw [if_pos (by decide)]
  | succ n ih =>
    intro k w I Q hk h1 h2 h3 h4 h5
    obtain ⟨w1, I1, Q1, m1, r1, -, r3⟩ := K_row (w := alc w (5, 0) 2) (I := I) (Q := Q) (J := J) (a := a + 2 + 2 * k) (n := 5) (by decide) (alc_new (by omega)) (by rw [alc_top]; omega)
    have old : ∀ c, c ≤ a + 1 + 2 * k → w1.1 c = w.1 c := fun c hc => by rw [m1.2.2.1 c (by omega), alc_old (by omega)]
    have q1 : ∀ c, c ≠ a + 2 + 2 * k → c ≠ a + 2 + 2 * k + 1 → Q1 c = Q c := fun c z1 z2 => (m1.2.2.2 c (by omega)).2
    have qb : ∀ c, c ≠ b → u2 Q1 b k (some (a + 2 + 2 * k)) c = Q1 c := fun c hc => by funext j; exact u2_ne (Or.inl hc)
    obtain ⟨w', I', Q', f1, f2, f3⟩ := ih (k + 1) w1 I1 (u2 Q1 b k (some (a + 2 + 2 * k))) (by omega) (by rw [old a (by omega)]; exact h1) (by rw [old b (by omega)]; exact h2) (by rw [qb a (by omega), q1 a (by omega) (by omega)]; exact h3) (by rw [m1.1]; omega) (fun j hj => by
      by_cases e : j = k
      · subst e
        exact ⟨u2_same, r1.q (qb _ (by omega))⟩
      · have := h5 j (by omega)
        refine ⟨by rw [u2_ne (Or.inr e), q1 b (by omega) (by omega)]; exact this.1, ?_⟩
        obtain ⟨p1, p2, p3, p4, p5, p6⟩ := this.2
        exact ⟨by rw [old _ (by omega)]; exact p1, by rw [qb _ (by omega), q1 _ (by omega) (by omega)]; exact p2, by rw [old _ (by omega)]; exact p3, p4, p5, p6⟩)
    refine ⟨w', I', Q', ⟨f1.1, by rw [f1.2.1, m1.2.1, alc_siz]; omega, fun c hc => by rw [f1.2.2.1 c hc, old c (by omega)], fun c hc => ?_⟩, f2, fun K => ?_⟩
    · have h1 := f1.2.2.2 c hc
      have h2 := m1.2.2.2 c (by omega)
      exact ⟨h1.1.trans h2.1, by rw [h1.2, qb c (by omega), h2.2]⟩
    · rw [← f3 K, rX8_init_14]
      simp only [rX8_init_15, rX8_init_16, rX8_init_19, rX8_init_20, rX8_init_23, rX8_init_24, rX8_init_27, rX8_init_28, rX8_init_29, h1, h3, rf_some, true_and, h4, alc_old (show a ≤ w.2.1 by omega), alc_new (show a + 1 + 2 * k + 1 = w.2.1 + 1 by omega)]
      rw [if_neg (show ¬ (4 : Int32) ≤ nI k from nI_ge (show k < 4 by omega) (by decide)), show a + 1 + 2 * k + 1 = a + 2 + 2 * k by omega, show (5 : Int32) = nI 5 from rfl, r3]
      simp only [tl_none, List.nil_append, rX8_init_32, rX8_init_33, rX8_init_36, old b (by omega), h2, r1.1, true_or, or_true, true_and, show clOf (22 - 20) = 5 from rfl, vin_nI (show k < 4 by omega) (by decide), nI_clamp (show k < 2 ^ 31 by omega), nI_1]
end CU
