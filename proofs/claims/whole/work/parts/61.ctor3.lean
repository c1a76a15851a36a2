section CV
variable {w : WS} {I : Nat → Nat → Int32} {Q : Nat → Nat → Option Nat} {J : Nat → Nat → Int64} {K : Option Value → WS → HS → Prop}
theorem rowOK.m {w' : WS} {Q' : Nat → Nat → Option Nat} {a s N : Nat} (h : rowOK w Q a s N) (h1 : w'.1 a = w.1 a) (h2 : w'.1 s = w.1 s) (h3 : Q' a = Q a) : rowOK w' Q' a s N := by
  obtain ⟨p1, p2, p3, p4, p5, p6⟩ := h
  exact ⟨by rw [h1]; exact p1, by rw [h3]; exact p2, by rw [h2]; exact p3, p4, p5, p6⟩
theorem stOK.m {w' : WS} {Q' : Nat → Nat → Option Nat} {a s : Nat} (h : stOK w Q a s) (h1 : w'.1 a = w.1 a) (h2 : w'.1 s = w.1 s) (h3 : Q' a = Q a) : stOK w' Q' a s := by
  obtain ⟨p1, p2, p3, p4, p5⟩ := h
  exact ⟨by rw [h1]; exact p1, by rw [h3]; exact p2, by rw [h2]; exact p3, p4, p5⟩
theorem rlOK.m {w' : WS} {Q' : Nat → Nat → Option Nat} {a s t : Nat} (h : rlOK w Q a s t) (h1 : w'.1 a = w.1 a) (h2 : w'.1 s = w.1 s) (h3 : w'.1 t = w.1 t) (h4 : Q' a = Q a) : rlOK w' Q' a s t := by
  obtain ⟨p1, p2, p3, p4, p5, p6⟩ := h
  exact ⟨by rw [h1]; exact p1, by rw [h4]; exact p2, by rw [h4]; exact p3, by rw [h2]; exact p4, by rw [h3]; exact p5, p6⟩
theorem wdOK.m {w' : WS} {Q' : Nat → Nat → Option Nat} {a : Nat} (h : wdOK w Q a (a + 1) (a + 2)) (h1 : ∀ c, a ≤ c → c < a + 10 → w'.1 c = w.1 c ∧ Q' c = Q c) : wdOK w' Q' a (a + 1) (a + 2) := by
  obtain ⟨p1, p2, p3, p4, p5, p6⟩ := h
  exact ⟨by rw [(h1 a (by omega) (by omega)).1]; exact p1, by rw [(h1 a (by omega) (by omega)).2]; exact p2, by rw [(h1 (a + 1) (by omega) (by omega)).1]; exact p3, fun k hk => ⟨by rw [(h1 (a + 1) (by omega) (by omega)).2]; exact (p4 k hk).1, (p4 k hk).2.m (h1 _ (by omega) (by omega)).1 (h1 _ (by omega) (by omega)).1 (h1 _ (by omega) (by omega)).2⟩, p5, p6⟩
theorem lnOK.m {w' : WS} {Q' : Nat → Nat → Option Nat} {b : Nat} (h : lnOK w Q b) (h1 : ∀ c, b ≤ c → c < b + 7 → w'.1 c = w.1 c ∧ Q' c = Q c) : lnOK w' Q' b := by
  obtain ⟨p1, p2, p3, p4, p5, p6, p7, p8, p9⟩ := h
  have hb := h1 b (by omega) (by omega)
  exact ⟨by rw [hb.1]; exact p1, by rw [hb.2]; exact p2, by rw [hb.2]; exact p3, by rw [hb.2]; exact p4, by rw [hb.2]; exact p5, p6.m (h1 _ (by omega) (by omega)).1 (h1 _ (by omega) (by omega)).1 (h1 _ (by omega) (by omega)).2, by rw [(h1 (b + 3) (by omega) (by omega)).1]; exact p7, by rw [(h1 (b + 4) (by omega) (by omega)).1]; exact p8, p9.m (h1 _ (by omega) (by omega)).1 (h1 _ (by omega) (by omega)).1 (h1 _ (by omega) (by omega)).2⟩
theorem K_words {a : Nat} (ha : w.1 a = (8, 0)) (ht : w.2.1 = a) : ∃ w' I' Q', MK a 9 32 w w' I I' Q Q' ∧ wdOK w' Q' a (a + 1) (a + 2) ∧ wdIs I' a (a + 2) [] ∧ ∀ K, (WP mX8_init 0 [.ref a, .null] [] w (I, Q, J) K ↔ K none w' (I', Q', J)) := by
  have e4 : (4 : Int32).toNatClampNeg = 4 := by decide
  have qa : ∀ c, c ≠ a → u2 Q a 0 (some (a + 1)) c = Q c := fun c hc => by funext j; exact u2_ne (Or.inl hc)
  obtain ⟨w', I', Q', f1, f2, f3⟩ := K_words_loop (J := J) (a := a) (b := a + 1) rfl 4 0 (alc w (22, 4) 4) I (u2 Q a 0 (some (a + 1))) rfl (by rw [alc_old (by omega)]; exact ha) (alc_new (by omega)) u2_same (by rw [alc_top]; omega) (fun j hj => by omega)
  have wa : w'.1 a = (8, 0) := by rw [f1.2.2.1 a (by omega), alc_old (by omega)]; exact ha
  refine ⟨w', u2 I' a 1 0, Q', ⟨f1.1, by rw [f1.2.1, alc_siz], fun c hc => by rw [f1.2.2.1 c (by omega), alc_old (by omega)], fun c hc => ?_⟩, ⟨wa, ?_, ?_, f2, by omega, by omega⟩, ⟨u2_same, fun k hk => by simp at hk⟩, fun K => ?_⟩
  · have := f1.2.2.2 c (by omega)
    exact ⟨(Fr_u2 c (by omega)).trans this.1, by rw [this.2, qa c (by omega)]⟩
  · rw [(f1.2.2.2 a (by omega)).2, u2_same]
  · rw [f1.2.2.1 (a + 1) (by omega), alc_new (by omega)]
  · simp only [rX8_init_0, rX8_init_1, rX8_init_4, rX8_init_5, rX8_init_6, rX8_init_9, rX8_init_12, rX8_init_13, e4, show ¬ (4 : Int32) < 0 by decide, show kdOf 5 ≠ 0 by decide, alc_old (show a ≤ w.2.1 by omega), ha, ht, true_and, not_false_eq_true, show 4 ≤ 5000 by decide, and_true, ne_eq]
    rw [show (0 : Int32) = nI 0 from rfl, f3]
    simp only [rX8_init_39, rX8_init_40, rX8_init_41, rX8_init_44, wa, true_and]
    rfl
theorem K_line {a : Nat} (ha : w.1 a = (2, 0)) (ht : w.2.1 = a) : ∃ w' I' Q', MK a 6 101 w w' I I' Q Q' ∧ lnOK w' Q' a ∧ I' a 4 = 1 ∧ ∀ K, (WP mX2_init 0 [.ref a] [] w (I, Q, J) K ↔ K none w' (I', Q', J)) := by
  have e30 : (30 : Int32).toNatClampNeg = 30 := by decide
  obtain ⟨w1, I1, Q1, m1, r1, -, r3⟩ := K_row (w := alc w (5, 0) 2) (I := I) (Q := Q) (J := J) (a := a + 1) (n := 30) (by decide) (alc_new (by omega)) (by rw [alc_top]; omega)
  have t1 : w1.2.1 = a + 2 := m1.1
  have t2 : (alc w1 (20, 30) 30).2.1 = a + 3 := by rw [alc_top, t1]
  have t3 : (alc (alc w1 (20, 30) 30) (20, 30) 30).2.1 = a + 4 := by rw [alc_top, t2]
  have o1 : ∀ c, c ≤ a → w1.1 c = w.1 c := fun c hc => by rw [m1.2.2.1 c (by omega), alc_old (by omega)]
  obtain ⟨w2, I2, Q2, m2, s1, s3⟩ := K_state (w := alc (alc (alc w1 (20, 30) 30) (20, 30) 30) (7, 0) 3) (I := I1) (Q := u2 (u2 (u2 Q1 a 0 (some (a + 1))) a 1 (some (a + 3))) a 2 (some (a + 4))) (J := J) (a := a + 5) (alc_new (by omega)) (by rw [alc_top]; omega)
  have o2 : ∀ c, c ≤ a + 2 → w2.1 c = w1.1 c := fun c hc => by rw [m2.2.2.1 c (by omega), alc_old (by omega), alc_old (by omega), alc_old (by omega)]
  have wa : w2.1 a = (2, 0) := by rw [o2 a (by omega), o1 a (by omega)]; exact ha
  have w1a : w1.1 a = (2, 0) := by rw [o1 a (by omega)]; exact ha
  have qa : ∀ c, c ≠ a → u2 Q2 a 3 (some (a + 5)) c = Q2 c := fun c hc => by funext j; exact u2_ne (Or.inl hc)
  have q2 : ∀ c, c < a + 5 → Q2 c = u2 (u2 (u2 Q1 a 0 (some (a + 1))) a 1 (some (a + 3))) a 2 (some (a + 4)) c := fun c hc => (m2.2.2.2 c (by omega)).2
  have q2o : ∀ c, c ≠ a → u2 (u2 (u2 Q1 a 0 (some (a + 1))) a 1 (some (a + 3))) a 2 (some (a + 4)) c = Q1 c := fun c hc => by funext j; rw [u2_ne (Or.inl hc), u2_ne (Or.inl hc), u2_ne (Or.inl hc)]
  refine ⟨w2, u2 I2 a 4 1, u2 Q2 a 3 (some (a + 5)), ⟨m2.1, by rw [m2.2.1, alc_siz, alc_siz, alc_siz, m1.2.1, alc_siz], fun c hc => by rw [o2 c (by omega), o1 c hc], fun c hc => ?_⟩, ⟨wa, ?_, ?_, ?_, u2_same, ?_, ?_, ?_, ?_⟩, u2_same, fun K => ?_⟩
  · have h1 := m1.2.2.2 c (by omega)
    have h2 := m2.2.2.2 c (by omega)
    exact ⟨by rw [Fr_u2 c (by omega), h2.1, h1.1], by rw [qa c (by omega), h2.2, q2o c (by omega), h1.2]⟩
  · rw [u2_ne (Or.inr (by decide)), q2 a (by omega), u2_ne (Or.inr (by decide)), u2_ne (Or.inr (by decide)), u2_same]
  · rw [u2_ne (Or.inr (by decide)), q2 a (by omega), u2_ne (Or.inr (by decide)), u2_same]
  · rw [u2_ne (Or.inr (by decide)), q2 a (by omega), u2_same]
  · exact r1.m (o2 _ (by omega)) (o2 _ (by omega)) (by rw [qa _ (by omega), q2 _ (by omega), q2o _ (by omega)])
  · rw [m2.2.2.1 _ (by omega), alc_old (by omega), alc_old (by omega), alc_new (by omega)]
  · rw [m2.2.2.1 _ (by omega), alc_old (by omega), alc_new (by omega)]
  · exact s1.m rfl rfl (qa _ (by omega))
  · simp only [rX2_init_0, rX2_init_1, rX2_init_4, rX2_init_5, rX2_init_8, rX2_init_9, rX2_init_11, alc_new (show a + 1 = w.2.1 + 1 by omega), ht, true_and]
    rw [show (30 : Int32) = nI 30 from rfl, r3]
    have l1 : (alc w1 (20, 30) 30).1 a = (2, 0) := by rw [alc_old (by omega)]; exact w1a
    have l2 : (alc (alc w1 (20, 30) 30) (20, 30) 30).1 a = (2, 0) := by rw [alc_old (by omega)]; exact l1
    simp only [tl_none, List.nil_append, rX2_init_14, rX2_init_17, rX2_init_18, rX2_init_20, rX2_init_22, rX2_init_25, rX2_init_26, rX2_init_28, rX2_init_30, rX2_init_33, rX2_init_34, rX2_init_37, rX2_init_38, e30, show ¬ (30 : Int32) < 0 by decide, w1a, l1, l2, t1, t2, t3, alc_new (show a + 5 = (alc (alc w1 (20, 30) 30) (20, 30) 30).2.1 + 1 by omega), true_and, not_false_eq_true, show 30 ≤ 5000 by decide]
    rw [s3]
    simp only [tl_none, List.nil_append, rX2_init_41, rX2_init_44, rX2_init_45, rX2_init_46, rX2_init_49, wa, true_and, or_true]
end CV
