section CW0
variable {w : WS} {I : Nat → Nat → Int32} {Q : Nat → Nat → Option Nat} {J : Nat → Nat → Int64} {K : Option Value → WS → HS → Prop}
theorem K_painter {a : Nat} (ha : w.1 a = (4, 0)) (ht : w.2.1 = a) : ∃ w' I' Q', MK a 2 9 w w' I I' Q Q' ∧ (w'.1 a = (4, 0) ∧ Q' a 0 = some (a + 1) ∧ stOK w' Q' (a + 1) (a + 2)) ∧ ∀ K, (WP mX4_init 0 [.ref a] [] w (I, Q, J) K ↔ K none w' (I', Q', J)) := by
  obtain ⟨w2, I2, Q2, m2, s1, s3⟩ := K_state (w := alc w (7, 0) 3) (I := I) (Q := Q) (J := J) (a := a + 1) (alc_new (by omega)) (by rw [alc_top]; omega)
  have wa : w2.1 a = (4, 0) := by rw [m2.2.2.1 a (by omega), alc_old (by omega)]; exact ha
  have qa : ∀ c, c ≠ a → u2 Q2 a 0 (some (a + 1)) c = Q2 c := fun c hc => by funext j; exact u2_ne (Or.inl hc)
  refine ⟨w2, u2 I2 a 1 (-1), u2 Q2 a 0 (some (a + 1)), ⟨m2.1, by rw [m2.2.1, alc_siz], fun c hc => by rw [m2.2.2.1 c (by omega), alc_old (by omega)], fun c hc => ?_⟩, ⟨wa, u2_same, s1.m rfl rfl (qa _ (by omega))⟩, fun K => ?_⟩
  · have h2 := m2.2.2.2 c (by omega)
    exact ⟨by rw [Fr_u2 c (by omega), h2.1], by rw [qa c (by omega), h2.2]⟩
  · simp only [rX4_init_0, rX4_init_1, rX4_init_4, rX4_init_5, rX4_init_8, rX4_init_9, ht, true_and, alc_new (show a + 1 = w.2.1 + 1 by omega)]
    rw [s3]
    simp only [tl_none, List.nil_append, rX4_init_12, rX4_init_15, rX4_init_16, rX4_init_17, rX4_init_20, wa, true_and]
theorem K_page_loop {a : Nat} : ∀ n k (w : WS) (I : Nat → Nat → Int32) (Q : Nat → Nat → Option Nat), n + k = 10 → w.1 a = (3, 0) → w.1 (a + 1) = (21, 10) → Q a 0 = some (a + 1) → w.2.1 = a + 1 + 7 * k → (∀ j, j < k → Q (a + 1) j = some (a + 2 + 7 * j) ∧ lnOK w Q (a + 2 + 7 * j) ∧ I (a + 2 + 7 * j) 4 = 1) → ∃ w' I' Q', (w'.2.1 = a + 71 ∧ w'.2.2 = w.2.2 + 106 * n ∧ (∀ c, c ≤ a + 1 → w'.1 c = w.1 c) ∧ ∀ c, c < a + 1 ∨ a + 71 < c → I' c = I c ∧ Q' c = Q c) ∧ (∀ j, j < 10 → Q' (a + 1) j = some (a + 2 + 7 * j) ∧ lnOK w' Q' (a + 2 + 7 * j) ∧ I' (a + 2 + 7 * j) 4 = 1) ∧ ∀ K, (WP mX3_init 15 [.ref a, .int (nI k)] [] w (I, Q, J) K ↔ WP mX3_init 40 [.ref a, .int (nI 10)] [] w' (I', Q', J) K) := by
  intro n
  induction n with
  | zero =>
    intro k w I Q hk h1 h2 h3 h4 h5
    have : k = 10 := by omega
    subst this
    refine ⟨w, I, Q, ⟨by omega, by omega, fun _ _ => rfl, fun _ _ => ⟨rfl, rfl⟩⟩, h5, fun K => ?_⟩
    rw [rX3_init_15]
    simp only [rX3_init_16, rX3_init_18]
    rw [if_pos (by decide)]
  | succ n ih =>
    intro k w I Q hk h1 h2 h3 h4 h5
    obtain ⟨w1, I1, Q1, m1, r1, r2, r3⟩ := K_line (w := alc w (2, 0) 5) (I := I) (Q := Q) (J := J) (a := a + 2 + 7 * k) (alc_new (by omega)) (by rw [alc_top]; omega)
    have old : ∀ c, c ≤ a + 1 + 7 * k → w1.1 c = w.1 c := fun c hc => by rw [m1.2.2.1 c (by omega), alc_old (by omega)]
    have q1 : ∀ c, c < a + 2 + 7 * k → I1 c = I c ∧ Q1 c = Q c := fun c z1 => m1.2.2.2 c (by omega)
    have qb : ∀ c, c ≠ a + 1 → u2 Q1 (a + 1) k (some (a + 2 + 7 * k)) c = Q1 c := fun c hc => by funext j; exact u2_ne (Or.inl hc)
    obtain ⟨w', I', Q', f1, f2, f3⟩ := ih (k + 1) w1 I1 (u2 Q1 (a + 1) k (some (a + 2 + 7 * k))) (by omega) (by rw [old a (by omega)]; exact h1) (by rw [old (a + 1) (by omega)]; exact h2) (by rw [qb a (by omega), (q1 a (by omega)).2]; exact h3) (by rw [m1.1]; omega) (fun j hj => by
      by_cases e : j = k
      · subst e
        exact ⟨u2_same, r1.m (fun c z1 z2 => ⟨rfl, qb c (by omega)⟩), r2⟩
      · have := h5 j (by omega)
        exact ⟨by rw [u2_ne (Or.inr e), (q1 (a + 1) (by omega)).2]; exact this.1, this.2.1.m (fun c z1 z2 => ⟨old c (by omega), by rw [qb c (by omega), (q1 c (by omega)).2]⟩), by rw [(q1 _ (by omega)).1]; exact this.2.2⟩)
    refine ⟨w', I', Q', ⟨f1.1, by rw [f1.2.1, m1.2.1, alc_siz]; omega, fun c hc => by rw [f1.2.2.1 c hc, old c (by omega)], fun c hc => ?_⟩, f2, fun K => ?_⟩
    · have h1 := f1.2.2.2 c hc
      have h2 := m1.2.2.2 c (by omega)
      exact ⟨h1.1.trans h2.1, by rw [h1.2, qb c (by omega), h2.2]⟩
    · rw [← f3 K, rX3_init_15]
      simp only [rX3_init_16, rX3_init_18, rX3_init_21, rX3_init_22, rX3_init_25, rX3_init_26, rX3_init_29, rX3_init_30, h1, h3, rf_some, true_and, h4, alc_new (show a + 1 + 7 * k + 1 = w.2.1 + 1 by omega)]
      rw [if_neg (show ¬ (10 : Int32) ≤ nI k from nI_ge (show k < 10 by omega) (by decide)), show a + 1 + 7 * k + 1 = a + 2 + 7 * k by omega, r3]
      simp only [tl_none, List.nil_append, rX3_init_33, rX3_init_34, rX3_init_37, old (a + 1) (by omega), h2, r1.1, true_or, or_true, true_and, show clOf (21 - 20) = 2 from rfl, vin_nI (show k < 10 by omega) (by decide), nI_clamp (show k < 2 ^ 31 by omega), nI_1]
end CW0
