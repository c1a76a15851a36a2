section CX
variable {w : WS} {I : Nat → Nat → Int32} {Q : Nat → Nat → Option Nat} {J : Nat → Nat → Int64} {K : Option Value → WS → HS → Prop}
theorem u2q {Q : Nat → Nat → Option Nat} {a f c : Nat} {x : Option Nat} (h : c ≠ a) : u2 Q a f x c = Q c := by funext j; exact u2_ne (Or.inl h)
theorem wdIs.nil {I I' : Nat → Nat → Int32} {a r : Nat} (h : wdIs I a r []) (e : I' a = I a) : wdIs I' a r [] := ⟨by rw [e]; exact h.1, fun k hk => by simp at hk⟩
/-- words, rules: the end of a page and of a kept state -/
theorem K_page {a : Nat} (ha : w.1 a = (3, 0)) (ht : w.2.1 = a) (ha1 : 1 ≤ a) (f : frsh a I) : ∃ w' I' Q', MK a 87 1166 w w' I I' Q Q' ∧ (w'.1 a = (3, 0) ∧ Q' a 0 = some (a + 1) ∧ Q' a 1 = some (a + 72) ∧ Q' a 2 = some (a + 82) ∧ Q' a 3 = some (a + 85) ∧ w'.1 (a + 1) = (21, 10)) ∧ (∀ j, j < 10 → Q' (a + 1) j = some (a + 2 + 7 * j) ∧ lnOK w' Q' (a + 2 + 7 * j) ∧ I' (a + 2 + 7 * j) 4 = 1) ∧ wdOK w' Q' (a + 72) (a + 73) (a + 74) ∧ wdIs I' (a + 72) (a + 74) [] ∧ rlOK w' Q' (a + 82) (a + 83) (a + 84) ∧ rlIs I' (a + 82) (a + 83) (a + 84) [] ∧ (w'.1 (a + 85) = (4, 0) ∧ Q' (a + 85) 0 = some (a + 86) ∧ stOK w' Q' (a + 86) (a + 87)) ∧ I' a 4 = 0 ∧ ∀ K, (WP mX3_init 0 [.ref a, .null] [] w (I, Q, J) K ↔ K none w' (I', Q', J)) := by
  have e10 : (10 : Int32).toNatClampNeg = 10 := by decide
  obtain ⟨w1, I1, Q1, ⟨t1, z1, o1, p1⟩, l1, k1⟩ := K_page_loop (J := J) (a := a) 10 0 (alc w (21, 10) 10) I (u2 Q a 0 (some (a + 1))) rfl (by rw [alc_old (by omega)]; exact ha) (alc_new (by omega)) u2_same (by rw [alc_top]; omega) (fun j hj => by omega)
  have w1a : w1.1 a = (3, 0) := by rw [o1 a (by omega), alc_old (by omega)]; exact ha
  obtain ⟨w2, I2, Q2, m2, wd2, wi2, k2⟩ := K_words (w := alc w1 (8, 0) 2) (I := I1) (Q := Q1) (J := J) (a := a + 72) (alc_new (by omega)) (by rw [alc_top]; omega)
  have w2a : w2.1 a = (3, 0) := by rw [m2.2.2.1 a (by omega), alc_old (by omega)]; exact w1a
  have t2 : w2.2.1 = a + 81 := m2.1
  have f2 : frsh (a + 82) I2 := fun c j hc => by rw [(m2.2.2.2 c (by omega)).1, (p1 c (by omega)).1]; exact f c j (by omega)
  obtain ⟨w3, I3, Q3, m3, rl3, ri3, k3⟩ := K_rules (w := alc w2 (6, 0) 3) (I := I2) (Q := u2 Q2 a 1 (some (a + 72))) (J := J) (a := a + 82) (alc_new (by omega)) (by rw [alc_top]; omega) (by omega) f2
  have w3a : w3.1 a = (3, 0) := by rw [m3.2.2.1 a (by omega), alc_old (by omega)]; exact w2a
  have t3 : w3.2.1 = a + 84 := m3.1
  have s3 : ∀ c, c ≤ a + 81 → w3.1 c = w2.1 c := fun c hc => by rw [m3.2.2.1 c (by omega), alc_old (by omega)]
  obtain ⟨w4, I4, Q4, m4, pn4, k4⟩ := K_painter (w := alc w3 (4, 0) 2) (I := I3) (Q := u2 Q3 a 2 (some (a + 82))) (J := J) (a := a + 85) (alc_new (by omega)) (by rw [alc_top]; omega)
  have w4a : w4.1 a = (3, 0) := by rw [m4.2.2.1 a (by omega), alc_old (by omega)]; exact w3a
  have s4 : ∀ c, c ≤ a + 84 → w4.1 c = w3.1 c := fun c hc => by rw [m4.2.2.1 c (by omega), alc_old (by omega)]
  have s2 : ∀ c, c ≤ a + 71 → w2.1 c = w1.1 c := fun c hc => by rw [m2.2.2.1 c (by omega), alc_old (by omega)]
  have q4 : ∀ c, c ≠ a → c < a + 85 → u2 Q4 a 3 (some (a + 85)) c = Q3 c := fun c hc h2 => by rw [u2q hc, (m4.2.2.2 c (by omega)).2, u2q hc]
  have q3 : ∀ c, c ≠ a → c < a + 82 → Q3 c = Q2 c := fun c hc h2 => by rw [(m3.2.2.2 c (by omega)).2, u2q hc]
  have q2 : ∀ c, c < a + 72 → Q2 c = Q1 c := fun c h2 => (m2.2.2.2 c (by omega)).2
  have i4 : ∀ c, c ≠ a → c < a + 85 → u2 I4 a 4 0 c = I3 c := fun c hc h2 => by rw [Fr_u2 c hc, (m4.2.2.2 c (by omega)).1]
  have i3 : ∀ c, c < a + 82 → I3 c = I2 c := fun c h2 => (m3.2.2.2 c (by omega)).1
  have i2 : ∀ c, c < a + 72 → I2 c = I1 c := fun c h2 => (m2.2.2.2 c (by omega)).1
  refine ⟨w4, u2 I4 a 4 0, u2 Q4 a 3 (some (a + 85)), ⟨m4.1, by rw [m4.2.1, alc_siz, m3.2.1, alc_siz, m2.2.1, alc_siz, z1, alc_siz], fun c hc => by rw [s4 c (by omega), s3 c (by omega), s2 c (by omega), o1 c (by omega), alc_old (by omega)], fun c hc => ?_⟩, ⟨w4a, ?_, ?_, ?_, u2_same, ?_⟩, fun j hj => ⟨?_, ?_, ?_⟩, ?_, ?_, ?_, ?_, ⟨pn4.1, ?_, ?_⟩, u2_same, fun K => ?_⟩
  · have h1 := p1 c (by omega)
    have h2 := m2.2.2.2 c (by omega)
    have h3 := m3.2.2.2 c (by omega)
    have h4 := m4.2.2.2 c (by omega)
    exact ⟨by rw [Fr_u2 c (by omega), h4.1, h3.1, h2.1, h1.1], by rw [u2q (by omega), h4.2, u2q (by omega), h3.2, u2q (by omega), h2.2, h1.2, u2q (by omega)]⟩
  · rw [u2_ne (Or.inr (by decide)), (m4.2.2.2 a (by omega)).2, u2_ne (Or.inr (by decide)), (m3.2.2.2 a (by omega)).2, u2_ne (Or.inr (by decide)), q2 a (by omega), (p1 a (by omega)).2, u2_same]
  · rw [u2_ne (Or.inr (by decide)), (m4.2.2.2 a (by omega)).2, u2_ne (Or.inr (by decide)), (m3.2.2.2 a (by omega)).2, u2_same]
  · rw [u2_ne (Or.inr (by decide)), (m4.2.2.2 a (by omega)).2, u2_same]
  · rw [s4 _ (by omega), s3 _ (by omega), s2 _ (by omega), o1 _ (by omega), alc_new (by omega)]
  · rw [q4 _ (by omega) (by omega), q3 _ (by omega) (by omega), q2 _ (by omega)]; exact (l1 j hj).1
  · exact (l1 j hj).2.1.m (fun c h1 h2 => ⟨by rw [s4 c (by omega), s3 c (by omega), s2 c (by omega)], by rw [q4 c (by omega) (by omega), q3 c (by omega) (by omega), q2 c (by omega)]⟩)
  · rw [i4 _ (by omega) (by omega), i3 _ (by omega), i2 _ (by omega)]; exact (l1 j hj).2.2
  · exact wd2.m (fun c h1 h2 => ⟨by rw [s4 c (by omega), s3 c (by omega)], by rw [q4 c (by omega) (by omega), q3 c (by omega) (by omega)]⟩)
  · exact wi2.nil (by rw [i4 _ (by omega) (by omega), i3 _ (by omega)])
  · exact rl3.m (s4 _ (by omega)) (s4 _ (by omega)) (s4 _ (by omega)) (q4 _ (by omega) (by omega))
  · exact ri3.fr (i4 _ (by omega) (by omega)) (i4 _ (by omega) (by omega)) (i4 _ (by omega) (by omega))
  · rw [u2q (by omega)]; exact pn4.2.1
  · exact pn4.2.2.m rfl rfl (u2q (by omega))
  · simp only [rX3_init_0, rX3_init_1, rX3_init_4, rX3_init_5, rX3_init_7, rX3_init_10, rX3_init_13, rX3_init_14, e10, show ¬ (10 : Int32) < 0 by decide, show kdOf 2 ≠ 0 by decide, alc_old (show a ≤ w.2.1 by omega), ha, ht, true_and, not_false_eq_true, show 10 ≤ 5000 by decide, and_true, ne_eq]
    rw [show (0 : Int32) = nI 0 from rfl, k1]
    simp only [rX3_init_40, rX3_init_41, rX3_init_44, rX3_init_45, t1, true_and, alc_new (show a + 71 + 1 = w1.2.1 + 1 by omega)]
    rw [show a + 71 + 1 = a + 72 by omega, k2]
    simp only [tl_none, List.nil_append, rX3_init_48, rX3_init_51, rX3_init_52, rX3_init_55, rX3_init_56, w2a, t2, true_and, alc_new (show a + 81 + 1 = w2.2.1 + 1 by omega)]
    rw [show a + 81 + 1 = a + 82 by omega, k3]
    simp only [tl_none, List.nil_append, rX3_init_59, rX3_init_62, rX3_init_63, rX3_init_66, rX3_init_67, w3a, t3, true_and, alc_new (show a + 84 + 1 = w3.2.1 + 1 by omega)]
    rw [show a + 84 + 1 = a + 85 by omega, k4]
    simp only [tl_none, List.nil_append, rX3_init_70, rX3_init_73, rX3_init_74, rX3_init_75, rX3_init_78, w4a, true_and]
    rfl
end CX
