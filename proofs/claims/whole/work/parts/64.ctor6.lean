section CY
variable {w : WS} {I : Nat → Nat → Int32} {Q : Nat → Nat → Option Nat} {J : Nat → Nat → Int64} {K : Option Value → WS → HS → Prop}
theorem K_kept_loop {a : Nat} : ∀ n k (w : WS) (I : Nat → Nat → Int32) (Q : Nat → Nat → Option Nat), n + k = 10 → w.1 a = (1, 0) → w.1 (a + 1) = (22, 10) → Q a 0 = some (a + 1) → w.2.1 = a + 1 + 2 * k → (∀ j, j < k → Q (a + 1) j = some (a + 2 + 2 * j) ∧ rowOK w Q (a + 2 + 2 * j) (a + 2 + 2 * j + 1) 30) → ∃ w' I' Q', (w'.2.1 = a + 21 ∧ w'.2.2 = w.2.2 + 32 * n ∧ (∀ c, c ≤ a + 1 → w'.1 c = w.1 c) ∧ ∀ c, c < a + 1 ∨ a + 21 < c → I' c = I c ∧ Q' c = Q c) ∧ (∀ j, j < 10 → Q' (a + 1) j = some (a + 2 + 2 * j) ∧ rowOK w' Q' (a + 2 + 2 * j) (a + 2 + 2 * j + 1) 30) ∧ ∀ K, (WP mX1_init 15 [.ref a, .int (nI k)] [] w (I, Q, J) K ↔ WP mX1_init 42 [.ref a, .int (nI 10)] [] w' (I', Q', J) K) := by
  intro n
  induction n with
  | zero =>
    intro k w I Q hk h1 h2 h3 h4 h5
    have : k = 10 := by omega
    subst this
    refine ⟨w, I, Q, ⟨by omega, by omega, fun _ _ => rfl, fun _ _ => ⟨rfl, rfl⟩⟩, h5, fun K => ?_⟩
    rw [rX1_init_15]
    simp only [rX1_init_16, rX1_init_18]
    rw [if_pos (by decide)]
  | succ n ih =>
    intro k w I Q hk h1 h2 h3 h4 h5
    obtain ⟨w1, I1, Q1, m1, r1, -, r3⟩ := K_row (w := alc w (5, 0) 2) (I := I) (Q := Q) (J := J) (a := a + 2 + 2 * k) (n := 30) (by decide) (alc_new (by omega)) (by rw [alc_top]; omega)
    have old : ∀ c, c ≤ a + 1 + 2 * k → w1.1 c = w.1 c := fun c hc => by rw [m1.2.2.1 c (by omega), alc_old (by omega)]
    have q1 : ∀ c, c < a + 2 + 2 * k → I1 c = I c ∧ Q1 c = Q c := fun c z1 => m1.2.2.2 c (by omega)
    have qb : ∀ c, c ≠ a + 1 → u2 Q1 (a + 1) k (some (a + 2 + 2 * k)) c = Q1 c := fun c hc => u2q hc
    obtain ⟨w', I', Q', f1, f2, f3⟩ := ih (k + 1) w1 I1 (u2 Q1 (a + 1) k (some (a + 2 + 2 * k))) (by omega) (by rw [old a (by omega)]; exact h1) (by rw [old (a + 1) (by omega)]; exact h2) (by rw [qb a (by omega), (q1 a (by omega)).2]; exact h3) (by rw [m1.1]; omega) (fun j hj => by
      by_cases e : j = k
      · subst e
        exact ⟨u2_same, r1.m rfl rfl (qb _ (by omega))⟩
      · have := h5 j (by omega)
        exact ⟨by rw [u2_ne (Or.inr e), (q1 (a + 1) (by omega)).2]; exact this.1, this.2.m (old _ (by omega)) (old _ (by omega)) (by rw [qb _ (by omega), (q1 _ (by omega)).2])⟩)
    refine ⟨w', I', Q', ⟨f1.1, by rw [f1.2.1, m1.2.1, alc_siz]; omega, fun c hc => by rw [f1.2.2.1 c hc, old c (by omega)], fun c hc => ?_⟩, f2, fun K => ?_⟩
    · have h1 := f1.2.2.2 c hc
      have h2 := m1.2.2.2 c (by omega)
      exact ⟨h1.1.trans h2.1, by rw [h1.2, qb c (by omega), h2.2]⟩
    · rw [← f3 K, rX1_init_15]
      simp only [rX1_init_16, rX1_init_18, rX1_init_21, rX1_init_22, rX1_init_25, rX1_init_26, rX1_init_29, rX1_init_30, h1, h3, rf_some, true_and, h4, alc_old (show a ≤ w.2.1 by omega), alc_new (show a + 1 + 2 * k + 1 = w.2.1 + 1 by omega)]
      rw [if_neg (show ¬ (10 : Int32) ≤ nI k from nI_ge (show k < 10 by omega) (by decide)), show a + 1 + 2 * k + 1 = a + 2 + 2 * k by omega]
      simp only [rX1_init_32, alc_new (show a + 2 + 2 * k = w.2.1 + 1 by omega), true_and]
      rw [show (30 : Int32) = nI 30 from rfl, r3]
      simp only [tl_none, List.nil_append, rX1_init_35, rX1_init_36, rX1_init_39, old (a + 1) (by omega), h2, r1.1, true_or, or_true, true_and, show clOf (22 - 20) = 5 from rfl, vin_nI (show k < 10 by omega) (by decide), nI_clamp (show k < 2 ^ 31 by omega), nI_1]
theorem kpOK.m {w' : WS} {Q' : Nat → Nat → Option Nat} {a : Nat} (h : kpOK w Q a) (h1 : ∀ c, a ≤ c → c < a + 35 → w'.1 c = w.1 c ∧ Q' c = Q c) : kpOK w' Q' a := by
  obtain ⟨p1, p2, p3, p4, p5, p6, p7, p8⟩ := h
  have ha := h1 a (by omega) (by omega)
  exact ⟨by rw [ha.1]; exact p1, by rw [ha.2]; exact p2, by rw [ha.2]; exact p3, by rw [ha.2]; exact p4, by rw [(h1 (a + 1) (by omega) (by omega)).1]; exact p5, fun k hk => ⟨by rw [(h1 (a + 1) (by omega) (by omega)).2]; exact (p6 k hk).1, (p6 k hk).2.m (h1 _ (by omega) (by omega)).1 (h1 _ (by omega) (by omega)).1 (h1 _ (by omega) (by omega)).2⟩, p7.m (fun c z1 z2 => h1 c (by omega) (by omega)), p8.m (h1 _ (by omega) (by omega)).1 (h1 _ (by omega) (by omega)).1 (h1 _ (by omega) (by omega)).1 (h1 _ (by omega) (by omega)).2⟩
theorem K_kept {a : Nat} (ha : w.1 a = (1, 0)) (ht : w.2.1 = a) (ha1 : 1 ≤ a) (f : frsh a I) : ∃ w' I' Q', MK a 34 415 w w' I I' Q Q' ∧ kpOK w' Q' a ∧ ∀ K, (WP mX1_init 0 [.ref a, .null] [] w (I, Q, J) K ↔ K none w' (I', Q', J)) := by
  have e10 : (10 : Int32).toNatClampNeg = 10 := by decide
  obtain ⟨w1, I1, Q1, ⟨t1, z1, o1, p1⟩, l1, k1⟩ := K_kept_loop (J := J) (a := a) 10 0 (alc w (22, 10) 10) I (u2 Q a 0 (some (a + 1))) rfl (by rw [alc_old (by omega)]; exact ha) (alc_new (by omega)) u2_same (by rw [alc_top]; omega) (fun j hj => by omega)
  have w1a : w1.1 a = (1, 0) := by rw [o1 a (by omega), alc_old (by omega)]; exact ha
  obtain ⟨w2, I2, Q2, m2, wd2, -, k2⟩ := K_words (w := alc w1 (8, 0) 2) (I := I1) (Q := Q1) (J := J) (a := a + 22) (alc_new (by omega)) (by rw [alc_top]; omega)
  have w2a : w2.1 a = (1, 0) := by rw [m2.2.2.1 a (by omega), alc_old (by omega)]; exact w1a
  have t2 : w2.2.1 = a + 31 := m2.1
  have f2 : frsh (a + 32) I2 := fun c j hc => by rw [(m2.2.2.2 c (by omega)).1, (p1 c (by omega)).1]; exact f c j (by omega)
  obtain ⟨w3, I3, Q3, m3, rl3, -, k3⟩ := K_rules (w := alc w2 (6, 0) 3) (I := I2) (Q := u2 Q2 a 1 (some (a + 22))) (J := J) (a := a + 32) (alc_new (by omega)) (by rw [alc_top]; omega) (by omega) f2
  have w3a : w3.1 a = (1, 0) := by rw [m3.2.2.1 a (by omega), alc_old (by omega)]; exact w2a
  have s3 : ∀ c, c ≤ a + 31 → w3.1 c = w2.1 c := fun c hc => by rw [m3.2.2.1 c (by omega), alc_old (by omega)]
  have s2 : ∀ c, c ≤ a + 21 → w2.1 c = w1.1 c := fun c hc => by rw [m2.2.2.1 c (by omega), alc_old (by omega)]
  have q3 : ∀ c, c ≠ a → c < a + 32 → u2 Q3 a 2 (some (a + 32)) c = Q2 c := fun c hc h2 => by rw [u2q hc, (m3.2.2.2 c (by omega)).2, u2q hc]
  have q2 : ∀ c, c < a + 22 → Q2 c = Q1 c := fun c h2 => (m2.2.2.2 c (by omega)).2
  refine ⟨w3, u2 I3 a 3 0, u2 Q3 a 2 (some (a + 32)), ⟨m3.1, by rw [m3.2.1, alc_siz, m2.2.1, alc_siz, z1, alc_siz], fun c hc => by rw [s3 c (by omega), s2 c (by omega), o1 c (by omega), alc_old (by omega)], fun c hc => ?_⟩, ⟨w3a, ?_, ?_, u2_same, ?_, fun j hj => ⟨?_, ?_⟩, ?_, ?_⟩, fun K => ?_⟩
  · have h1 := p1 c (by omega)
    have h2 := m2.2.2.2 c (by omega)
    have h3 := m3.2.2.2 c (by omega)
    exact ⟨by rw [Fr_u2 c (by omega), h3.1, h2.1, h1.1], by rw [u2q (by omega), h3.2, u2q (by omega), h2.2, h1.2, u2q (by omega)]⟩
  · rw [u2_ne (Or.inr (by decide)), (m3.2.2.2 a (by omega)).2, u2_ne (Or.inr (by decide)), q2 a (by omega), (p1 a (by omega)).2, u2_same]
  · rw [u2_ne (Or.inr (by decide)), (m3.2.2.2 a (by omega)).2, u2_same]
  · rw [s3 _ (by omega), s2 _ (by omega), o1 _ (by omega), alc_new (by omega)]
  · rw [q3 _ (by omega) (by omega), q2 _ (by omega)]; exact (l1 j hj).1
  · have := (l1 j hj).2.m (w' := w3) (Q' := u2 Q3 a 2 (some (a + 32))) (by rw [s3 _ (by omega), s2 _ (by omega)]) (by rw [s3 _ (by omega), s2 _ (by omega)]) (by rw [q3 _ (by omega) (by omega), q2 _ (by omega)])
    rw [show a + 3 + 2 * j = a + 2 + 2 * j + 1 by omega]
    exact this
  · exact wd2.m (fun c h1 h2 => ⟨s3 c (by omega), q3 c (by omega) (by omega)⟩)
  · exact rl3.m rfl rfl rfl (u2q (by omega))
  · simp only [rX1_init_0, rX1_init_1, rX1_init_4, rX1_init_5, rX1_init_7, rX1_init_10, rX1_init_13, rX1_init_14, e10, show ¬ (10 : Int32) < 0 by decide, show kdOf 5 ≠ 0 by decide, alc_old (show a ≤ w.2.1 by omega), ha, ht, true_and, not_false_eq_true, show 10 ≤ 5000 by decide, and_true, ne_eq]
    rw [show (0 : Int32) = nI 0 from rfl, k1]
    simp only [rX1_init_42, rX1_init_43, rX1_init_46, rX1_init_47, t1, true_and, alc_new (show a + 21 + 1 = w1.2.1 + 1 by omega)]
    rw [show a + 21 + 1 = a + 22 by omega, k2]
    simp only [tl_none, List.nil_append, rX1_init_50, rX1_init_53, rX1_init_54, rX1_init_57, rX1_init_58, w2a, t2, true_and, alc_new (show a + 31 + 1 = w2.2.1 + 1 by omega)]
    rw [show a + 31 + 1 = a + 32 by omega, k3]
    simp only [tl_none, List.nil_append, rX1_init_61, rX1_init_64, rX1_init_65, rX1_init_66, rX1_init_69, w3a, true_and]
    rfl
end CY
