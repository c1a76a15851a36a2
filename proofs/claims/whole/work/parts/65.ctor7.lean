section CZ
variable {w : WS} {I : Nat → Nat → Int32} {Q : Nat → Nat → Option Nat} {J : Nat → Nat → Int64} {K : Option Value → WS → HS → Prop}
theorem K_hist_loop {a : Nat} : ∀ n k (w : WS) (I : Nat → Nat → Int32) (Q : Nat → Nat → Option Nat), n + k = 5 → w.1 a = (0, 0) → w.1 (a + 1) = (23, 5) → Q a 0 = some (a + 1) → w.2.1 = a + 1 + 35 * k → frsh (a + 1 + 35 * k) I → (∀ j, j < k → Q (a + 1) j = some (a + 2 + 35 * j) ∧ kpOK w Q (a + 2 + 35 * j)) → ∃ w' I' Q', (w'.2.1 = a + 176 ∧ w'.2.2 = w.2.2 + 419 * n ∧ (∀ c, c ≤ a + 1 → w'.1 c = w.1 c) ∧ ∀ c, c < a + 1 ∨ a + 176 < c → I' c = I c ∧ Q' c = Q c) ∧ (∀ j, j < 5 → Q' (a + 1) j = some (a + 2 + 35 * j) ∧ kpOK w' Q' (a + 2 + 35 * j)) ∧ ∀ K, (WP mX0_init 14 [.ref a, .int (nI k)] [] w (I, Q, J) K ↔ WP mX0_init 38 [.ref a, .int (nI 5)] [] w' (I', Q', J) K) := by
  intro n
  induction n with
  | zero =>
    intro k w I Q hk h1 h2 h3 h4 fr h5
    have : k = 5 := by omega
    subst this
    refine ⟨w, I, Q, ⟨by omega, by omega, fun _ _ => rfl, fun _ _ => ⟨rfl, rfl⟩⟩, h5, fun K => ?_⟩
    rw [rX0_init_14]
    simp only [rX0_init_15, rX0_init_16]
    rw [if_pos (by decide)]
  | succ n ih =>
    intro k w I Q hk h1 h2 h3 h4 fr h5
    obtain ⟨w1, I1, Q1, m1, r1, r3⟩ := K_kept (w := alc w (1, 0) 4) (I := I) (Q := Q) (J := J) (a := a + 2 + 35 * k) (alc_new (by omega)) (by rw [alc_top]; omega) (by omega) (fun c j hc => fr c j (by omega))
    have fr1 : frsh (a + 1 + 35 * (k + 1)) I1 := fun c j hc => by rw [(m1.2.2.2 c (by omega)).1]; exact fr c j (by omega)
    have old : ∀ c, c ≤ a + 1 + 35 * k → w1.1 c = w.1 c := fun c hc => by rw [m1.2.2.1 c (by omega), alc_old (by omega)]
    have q1 : ∀ c, c < a + 2 + 35 * k → I1 c = I c ∧ Q1 c = Q c := fun c z1 => m1.2.2.2 c (by omega)
    have qb : ∀ c, c ≠ a + 1 → u2 Q1 (a + 1) k (some (a + 2 + 35 * k)) c = Q1 c := fun c hc => u2q hc
    obtain ⟨w', I', Q', f1, f2, f3⟩ := ih (k + 1) w1 I1 (u2 Q1 (a + 1) k (some (a + 2 + 35 * k))) (by omega) (by rw [old a (by omega)]; exact h1) (by rw [old (a + 1) (by omega)]; exact h2) (by rw [qb a (by omega), (q1 a (by omega)).2]; exact h3) (by rw [m1.1]; omega) fr1 (fun j hj => by
      by_cases e : j = k
      · subst e
        exact ⟨u2_same, r1.m (fun c z1 z2 => ⟨rfl, qb _ (by omega)⟩)⟩
      · have := h5 j (by omega)
        exact ⟨by rw [u2_ne (Or.inr e), (q1 (a + 1) (by omega)).2]; exact this.1, this.2.m (fun c z1 z2 => ⟨old c (by omega), by rw [qb c (by omega), (q1 c (by omega)).2]⟩)⟩)
    refine ⟨w', I', Q', ⟨f1.1, by rw [f1.2.1, m1.2.1, alc_siz]; omega, fun c hc => by rw [f1.2.2.1 c hc, old c (by omega)], fun c hc => ?_⟩, f2, fun K => ?_⟩
    · have h1 := f1.2.2.2 c hc
      have h2 := m1.2.2.2 c (by omega)
      exact ⟨h1.1.trans h2.1, by rw [h1.2, qb c (by omega), h2.2]⟩
    · rw [← f3 K, rX0_init_14]
      simp only [rX0_init_15, rX0_init_16, rX0_init_19, rX0_init_20, rX0_init_23, rX0_init_24, rX0_init_27, rX0_init_28, h1, h3, rf_some, true_and, h4, alc_new (show a + 1 + 35 * k + 1 = w.2.1 + 1 by omega)]
      rw [if_neg (show ¬ (5 : Int32) ≤ nI k from nI_ge (show k < 5 by omega) (by decide)), show a + 1 + 35 * k + 1 = a + 2 + 35 * k by omega, r3]
      simp only [tl_none, List.nil_append, rX0_init_31, rX0_init_32, rX0_init_35, old (a + 1) (by omega), h2, r1.1, true_or, or_true, true_and, show clOf (23 - 20) = 1 from rfl, vin_nI (show k < 5 by omega) (by decide), nI_clamp (show k < 2 ^ 31 by omega), nI_1]
theorem K_hist {a : Nat} (ha : w.1 a = (0, 0)) (ht : w.2.1 = a) (f : frsh a I) : ∃ w' I' Q', MK a 176 2100 w w' I I' Q Q' ∧ (w'.1 a = (0, 0) ∧ Q' a 0 = some (a + 1) ∧ w'.1 (a + 1) = (23, 5) ∧ ∀ i, i < 5 → Q' (a + 1) i = some (a + 2 + 35 * i) ∧ kpOK w' Q' (a + 2 + 35 * i)) ∧ (I' a 1 = 0 ∧ I' a 2 = 0) ∧ ∀ K, (WP mX0_init 0 [.ref a, .null] [] w (I, Q, J) K ↔ K none w' (I', Q', J)) := by
  have e5 : (5 : Int32).toNatClampNeg = 5 := by decide
  obtain ⟨w1, I1, Q1, ⟨t1, z1, o1, p1⟩, l1, k1⟩ := K_hist_loop (J := J) (a := a) 5 0 (alc w (23, 5) 5) I (u2 Q a 0 (some (a + 1))) rfl (by rw [alc_old (by omega)]; exact ha) (alc_new (by omega)) u2_same (by rw [alc_top]; omega) (fun c j hc => f c j (by omega)) (fun j hj => by omega)
  have w1a : w1.1 a = (0, 0) := by rw [o1 a (by omega), alc_old (by omega)]; exact ha
  refine ⟨w1, u2 (u2 I1 a 1 0) a 2 0, Q1, ⟨t1, by rw [z1, alc_siz], fun c hc => by rw [o1 c (by omega), alc_old (by omega)], fun c hc => ?_⟩, ⟨w1a, ?_, ?_, l1⟩, ⟨?_, u2_same⟩, fun K => ?_⟩
  · have h1 := p1 c (by omega)
    exact ⟨by rw [Fr_u2 c (by omega), Fr_u2 c (by omega), h1.1], by rw [h1.2, u2q (by omega)]⟩
  · rw [(p1 a (by omega)).2, u2_same]
  · rw [o1 _ (by omega), alc_new (by omega)]
  · rw [u2_ne (Or.inr (by decide)), u2_same]
  · simp only [rX0_init_0, rX0_init_1, rX0_init_4, rX0_init_5, rX0_init_6, rX0_init_9, rX0_init_12, rX0_init_13, e5, show ¬ (5 : Int32) < 0 by decide, show kdOf 1 ≠ 0 by decide, alc_old (show a ≤ w.2.1 by omega), ha, ht, true_and, not_false_eq_true, show 5 ≤ 5000 by decide, and_true, ne_eq]
    rw [show (0 : Int32) = nI 0 from rfl, k1]
    simp only [rX0_init_38, rX0_init_39, rX0_init_40, rX0_init_43, rX0_init_44, rX0_init_45, rX0_init_48, w1a, true_and]
    rfl
end CZ
