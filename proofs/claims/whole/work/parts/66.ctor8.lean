section DA
variable {w : WS} {I : Nat → Nat → Int32} {Q : Nat → Nat → Option Nat} {J : Nat → Nat → Int64} {K : Option Value → WS → HS → Prop}
/-- nothing told yet -/
def S0 : SP := ([], ([], [], []), [], 0, (0, 0, 0))
theorem K_class (ha : w.1 1 = (9, 0)) (ht : w.2.1 = 1) (f : frsh 1 I) : ∃ w' I' Q', MK 1 268 3309 w w' I I' Q Q' ∧ CS w' I' Q' S0 ∧ ∀ K, (WP mX9_init 0 [.ref 1] [] w (I, Q, J) K ↔ K none w' (I', Q', J)) := by
  have e3 : (3 : Int32).toNatClampNeg = 3 := by decide
  obtain ⟨w1, I1, Q1, m1, r1, ri1, k1⟩ := K_row (w := alc w (5, 0) 2) (I := I) (Q := Q) (J := J) (a := 2) (n := 30) (by decide) (alc_new (by omega)) (by rw [alc_top]; omega)
  have t1 : w1.2.1 = 3 := m1.1
  have f1 : frsh 4 I1 := fun c j hc => by rw [(m1.2.2.2 c (by omega)).1]; exact f c j (by omega)
  have w1a : w1.1 1 = (9, 0) := by rw [m1.2.2.1 1 (by omega), alc_old (by omega)]; exact ha
  obtain ⟨w2, I2, Q2, m2, pg2, ln2, wd2, wi2, rl2, ri2, pn2, i24, k2⟩ := K_page (w := alc w1 (3, 0) 5) (I := I1) (Q := u2 Q1 1 0 (some 2)) (J := J) (a := 4) (alc_new (by omega)) (by rw [alc_top]; omega) (by omega) f1
  have t2 : w2.2.1 = 91 := m2.1
  have f2 : frsh 92 I2 := fun c j hc => by rw [(m2.2.2.2 c (by omega)).1]; exact f1 c j (by omega)
  have s2 : ∀ c, c ≤ 3 → w2.1 c = w1.1 c := fun c hc => by rw [m2.2.2.1 c (by omega), alc_old (by omega)]
  have w2a : w2.1 1 = (9, 0) := by rw [s2 1 (by omega)]; exact w1a
  obtain ⟨w3, I3, Q3, m3, h3, i3, k3⟩ := K_hist (w := alc w2 (0, 0) 3) (I := I2) (Q := u2 Q2 1 1 (some 4)) (J := J) (a := 92) (alc_new (by omega)) (by rw [alc_top]; omega) f2
  have t3 : w3.2.1 = 268 := m3.1
  have s3 : ∀ c, c ≤ 91 → w3.1 c = w2.1 c := fun c hc => by rw [m3.2.2.1 c (by omega), alc_old (by omega)]
  have w3a : w3.1 1 = (9, 0) := by rw [s3 1 (by omega)]; exact w2a
  have s4 : ∀ c, c ≤ 268 → (alc w3 (20, 3) 3).1 c = w3.1 c := fun c hc => alc_old (by omega)
  have q3 : ∀ c, c ≠ 1 → u2 (u2 Q3 1 2 (some 92)) 1 3 (some 269) c = Q3 c := fun c hc => by rw [u2q hc, u2q hc]
  have q2 : ∀ c, c ≠ 1 → c < 92 → Q3 c = Q2 c := fun c hc h => by rw [(m3.2.2.2 c (by omega)).2, u2q hc]
  have q1 : ∀ c, c ≠ 1 → c < 4 → Q2 c = Q1 c := fun c hc h => by rw [(m2.2.2.2 c (by omega)).2, u2q hc]
  have j3 : ∀ c, c ≠ 1 → u2 I3 1 4 0 c = I3 c := fun c hc => Fr_u2 c hc
  have j2 : ∀ c, c < 92 → I3 c = I2 c := fun c h => (m3.2.2.2 c (by omega)).1
  have j1 : ∀ c, c < 4 → I2 c = I1 c := fun c h => (m2.2.2.2 c (by omega)).1
  refine ⟨alc w3 (20, 3) 3, u2 I3 1 4 0, u2 (u2 Q3 1 2 (some 92)) 1 3 (some 269), ⟨by rw [alc_top, t3], by rw [alc_siz, m3.2.1, alc_siz, m2.2.1, alc_siz, m1.2.1, alc_siz], fun c hc => by rw [s4 c (by omega), s3 c (by omega), s2 c (by omega), m1.2.2.1 c (by omega), alc_old (by omega)], fun c hc => ?_⟩, ⟨⟨⟨?_, ?_, ?_, ?_, u2_same⟩, ?_, ⟨?_, ?_, ?_, ?_, ?_, ?_⟩, fun p hp => ?_, ⟨?_, ?_, ?_, ?_⟩, ?_, ⟨?_, ?_, ?_, fun i hi => ⟨?_, ?_⟩⟩, alc_new (by omega)⟩, ?_, id, 0, ⟨fun k hk => ⟨?_, hk⟩, fun i j _ _ h => h⟩, ?_⟩, fun K => ?_⟩
  · have h1 := m1.2.2.2 c (by omega)
    have h2 := m2.2.2.2 c (by omega)
    have h3 := m3.2.2.2 c (by omega)
    exact ⟨by rw [j3 c (by omega), h3.1, h2.1, h1.1], by rw [q3 c (by omega), h3.2, u2q (by omega), h2.2, u2q (by omega), h1.2]⟩
  · rw [s4 _ (by omega)]; exact w3a
  · rw [u2_ne (Or.inr (by decide)), u2_ne (Or.inr (by decide)), (m3.2.2.2 1 (by omega)).2, u2_ne (Or.inr (by decide)), (m2.2.2.2 1 (by omega)).2, u2_same]
  · rw [u2_ne (Or.inr (by decide)), u2_ne (Or.inr (by decide)), (m3.2.2.2 1 (by omega)).2, u2_same]
  · rw [u2_ne (Or.inr (by decide)), u2_same]
  · exact r1.m (by rw [s4 _ (by omega), s3 _ (by omega), s2 _ (by omega)]) (by rw [s4 _ (by omega), s3 _ (by omega), s2 _ (by omega)]) (by rw [q3 _ (by omega), q2 _ (by omega) (by omega), q1 _ (by omega) (by omega)])
  · rw [s4 _ (by omega), s3 _ (by omega)]; exact pg2.1
  · rw [q3 _ (by omega), q2 _ (by omega) (by omega)]; exact pg2.2.1
  · rw [q3 _ (by omega), q2 _ (by omega) (by omega)]; exact pg2.2.2.1
  · rw [q3 _ (by omega), q2 _ (by omega) (by omega)]; exact pg2.2.2.2.1
  · rw [q3 _ (by omega), q2 _ (by omega) (by omega)]; exact pg2.2.2.2.2.1
  · rw [s4 _ (by omega), s3 _ (by omega)]; exact pg2.2.2.2.2.2
  · exact (ln2 p hp).2.1.m (fun c h1 h2 => ⟨by rw [s4 c (by omega), s3 c (by omega)], by rw [q3 c (by omega), q2 c (by omega) (by omega)]⟩)
  · rw [s4 _ (by omega), s3 _ (by omega)]; exact pn2.1
  · rw [q3 _ (by omega), q2 _ (by omega) (by omega)]; exact pn2.2.1
  · exact pn2.2.2.m (by rw [s4 _ (by omega), s3 _ (by omega)]) (by rw [s4 _ (by omega), s3 _ (by omega)]) (by rw [q3 _ (by omega), q2 _ (by omega) (by omega)])
  · exact wd2.m (fun c h1 h2 => ⟨by rw [s4 c (by omega), s3 c (by omega)], by rw [q3 c (by omega), q2 c (by omega) (by omega)]⟩)
  · exact rl2.m (by rw [s4 _ (by omega), s3 _ (by omega)]) (by rw [s4 _ (by omega), s3 _ (by omega)]) (by rw [s4 _ (by omega), s3 _ (by omega)]) (by rw [q3 _ (by omega), q2 _ (by omega) (by omega)])
  · rw [s4 _ (by omega)]; exact h3.1
  · rw [q3 _ (by omega)]; exact h3.2.1
  · rw [s4 _ (by omega)]; exact h3.2.2.1
  · rw [q3 _ (by omega)]; exact (h3.2.2.2 i hi).1
  · exact (h3.2.2.2 i hi).2.m (fun c h1 h2 => ⟨s4 c (by omega), q3 c (by omega)⟩)
  · exact ⟨by decide, ⟨⟨by decide, fun k hk => by simp [S0] at hk⟩, ⟨by decide, fun k hk => by simp [S0] at hk⟩, by decide⟩, ⟨by decide, fun k hk => by simp [S0] at hk⟩, by decide⟩
  · rw [q3 _ (by omega), q2 _ (by omega) (by omega)]; exact (ln2 k hk).1
  · refine ⟨ri1.fr ?_ ?_, ⟨?_, fun k hk => by simp [S0] at hk⟩, wi2.nil ?_, ri2.fr ?_ ?_ ?_, ⟨?_, ?_, by decide, fun d hd => by simp [S0] at hd⟩, u2_same, ⟨?_, ?_, ?_⟩, fun k hk => by simp [S0] at hk, fun p hp => Or.inl ?_⟩
    · rw [j3 _ (by omega), j2 _ (by omega), j1 _ (by omega)]
    · rw [j3 _ (by omega), j2 _ (by omega), j1 _ (by omega)]
    · rw [j3 _ (by omega), j2 _ (by omega)]; exact i24
    · rw [j3 _ (by omega), j2 _ (by omega)]
    · rw [j3 _ (by omega), j2 _ (by omega)]
    · rw [j3 _ (by omega), j2 _ (by omega)]
    · rw [j3 _ (by omega), j2 _ (by omega)]
    · rw [j3 _ (by omega)]; exact i3.1
    · rw [j3 _ (by omega)]; exact i3.2
    · rw [j3 _ (by omega), (m3.2.2.2 269 (by omega)).1]; exact f2 _ _ (by omega)
    · rw [j3 _ (by omega), (m3.2.2.2 269 (by omega)).1]; exact f2 _ _ (by omega)
    · rw [j3 _ (by omega), (m3.2.2.2 269 (by omega)).1]; exact f2 _ _ (by omega)
    · rw [j3 _ (by omega), j2 _ (by omega)]; exact (ln2 p hp).2.2
  · simp only [rX9_init_0, rX9_init_1, rX9_init_4, rX9_init_5, rX9_init_8, rX9_init_9, ht]
    rw [show (1 : Nat) + 1 = 2 from rfl]
    simp only [rX9_init_11, alc_new (show 2 = w.2.1 + 1 by omega), true_and]
    rw [show (30 : Int32) = nI 30 from rfl, k1]
    simp only [tl_none, List.nil_append, rX9_init_14, rX9_init_17, rX9_init_18, rX9_init_21, w1a, t1, true_and]
    rw [show (3 : Nat) + 1 = 4 from rfl]
    simp only [rX9_init_22, alc_new (show 4 = w1.2.1 + 1 by omega), true_and]
    rw [k2]
    simp only [tl_none, List.nil_append, rX9_init_25, rX9_init_28, rX9_init_29, rX9_init_32, w2a, t2, true_and]
    rw [show (91 : Nat) + 1 = 92 from rfl]
    simp only [rX9_init_33, alc_new (show 92 = w2.2.1 + 1 by omega), true_and]
    rw [k3]
    simp only [tl_none, List.nil_append, rX9_init_36, rX9_init_39, rX9_init_40, rX9_init_41, rX9_init_43, rX9_init_46, rX9_init_47, rX9_init_48, rX9_init_51, w3a, t3, e3, show ¬ (3 : Int32) < 0 by decide, alc_old (show 1 ≤ w3.2.1 by omega), not_false_eq_true, show 3 ≤ 5000 by decide, true_and]
end DA
