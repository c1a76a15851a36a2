section DD
variable {w : WS} {I : Nat → Nat → Int32} {Q : Nat → Nat → Option Nat} {S : SP}
/-- the class stands where more cells are made -/
theorem CS.mk {w' : WS} {Q' : Nat → Nat → Option Nat} (h : CS w I Q S) (hw : ∀ c, c < 270 → w'.1 c = w.1 c) (hq : ∀ c, c < 270 → Q' c = Q c) : CS w' I Q' S := by
  obtain ⟨⟨⟨a1, a2, a3, a4, a5⟩, b, ⟨c1, c2, c3, c4, c5, c6⟩, d, ⟨e1, e3, e4, e5⟩, f, ⟨g1, g2, g3, g4⟩, z⟩, hv, p, nx, hp, rc⟩ := h
  refine ⟨⟨⟨by rw [hw 1 (by omega)]; exact a1, by rw [hq 1 (by omega)]; exact a2, by rw [hq 1 (by omega)]; exact a3, by rw [hq 1 (by omega)]; exact a4, by rw [hq 1 (by omega)]; exact a5⟩, b.m (hw _ (by omega)) (hw _ (by omega)) (hq _ (by omega)), ⟨by rw [hw 4 (by omega)]; exact c1, by rw [hq 4 (by omega)]; exact c2, by rw [hq 4 (by omega)]; exact c3, by rw [hq 4 (by omega)]; exact c4, by rw [hq 4 (by omega)]; exact c5, by rw [hw 5 (by omega)]; exact c6⟩, fun p hp => (d p hp).m (fun c z1 z2 => ⟨hw c (by omega), hq c (by omega)⟩), ⟨by rw [hw 89 (by omega)]; exact e1, by rw [hq 89 (by omega)]; exact e3, e4.m (hw _ (by omega)) (hw _ (by omega)) (hq _ (by omega)), wdOK.m (a := 76) e5 (fun c z1 z2 => ⟨hw c (by omega), hq c (by omega)⟩)⟩, f.m (hw _ (by omega)) (hw _ (by omega)) (hw _ (by omega)) (hq _ (by omega)), ⟨by rw [hw 92 (by omega)]; exact g1, by rw [hq 92 (by omega)]; exact g2, by rw [hw 93 (by omega)]; exact g3, fun i hi => ⟨by rw [hq 93 (by omega)]; exact (g4 i hi).1, (g4 i hi).2.m (fun c z1 z2 => ⟨hw c (by omega), hq c (by omega)⟩)⟩⟩, by rw [hw 269 (by omega)]; exact z⟩, hv, p, nx, ⟨fun k hk => by rw [hq 5 (by omega)]; exact hp.1 k hk, hp.2⟩, rc⟩
end DD
section DB
variable {w : WS} {I : Nat → Nat → Int32} {Q : Nat → Nat → Option Nat} {J : Nat → Nat → Int64} {K : Option Value → WS → HS → Prop}
def wM (w : WS) : WS := alc (alc (alc (alc (alc (alc (alc (alc (alc w (20, 373) 373) (20, 1865) 1865) (20, 3) 3) (20, 30) 30) (20, 300) 300) (20, 300) 300) (20, 10) 10) (20, 10) 10) (20, 10) 10
def qM (Q : Nat → Nat → Option Nat) : Nat → Nat → Option Nat := u2 (u2 (u2 (u2 (u2 (u2 (u2 (u2 (u2 Q 270 0 (some 271)) 270 1 (some 272)) 270 3 (some 273)) 270 4 (some 274)) 270 7 (some 275)) 270 8 (some 276)) 270 9 (some 277)) 270 10 (some 278)) 270 11 (some 279)
theorem wM_old (ht : w.2.1 = 270) {c : Nat} (hc : c ≤ 270) : (wM w).1 c = w.1 c := by
  unfold wM
  rw [alc_old (by first | omega | (simp only [alc_top]; omega)), alc_old (by first | omega | (simp only [alc_top]; omega)), alc_old (by first | omega | (simp only [alc_top]; omega)), alc_old (by first | omega | (simp only [alc_top]; omega)), alc_old (by first | omega | (simp only [alc_top]; omega)), alc_old (by first | omega | (simp only [alc_top]; omega)), alc_old (by first | omega | (simp only [alc_top]; omega)), alc_old (by first | omega | (simp only [alc_top]; omega)), alc_old (by first | omega | (simp only [alc_top]; omega))]
theorem qM_old {c : Nat} (hc : c ≠ 270) : qM Q c = Q c := by
  unfold qM
  rw [u2q hc, u2q hc, u2q hc, u2q hc, u2q hc, u2q hc, u2q hc, u2q hc, u2q hc]
theorem K_model (ha : w.1 270 = (10, 0)) (ht : w.2.1 = 270) (f : frsh 269 I) : MS (wM w) I (qM Q) S0 ∧ ∀ K, (WP mX10_init 0 [.ref 270] [] w (I, Q, J) K ↔ K none (wM w) (I, qM Q, J)) := by
  have e373 : (373 : Int32).toNatClampNeg = 373 := by decide
  have e1865 : (1865 : Int32).toNatClampNeg = 1865 := by decide
  have e3 : (3 : Int32).toNatClampNeg = 3 := by decide
  have e30 : (30 : Int32).toNatClampNeg = 30 := by decide
  have e300 : (300 : Int32).toNatClampNeg = 300 := by decide
  have e10 : (10 : Int32).toNatClampNeg = 10 := by decide
  refine ⟨⟨⟨?_, ⟨?_, ?_, ?_, ?_, ?_, ?_, ?_, ?_, ?_⟩, ⟨?_, ?_, ?_, ?_, ?_, ?_, ?_, ?_, ?_⟩⟩, ⟨⟨f _ _ (by omega), f _ _ (by omega), f _ _ (by omega)⟩, fun k hk => by simp [S0] at hk, fun k hk => by simp [S0] at hk, fun k hk => by simp [S0] at hk⟩, ⟨f _ _ (by omega), fun k hk => by simp [S0] at hk⟩, ⟨f _ _ (by omega), f _ _ (by omega), f _ _ (by omega)⟩, ⟨f _ _ (by omega), fun k hk => by simp [S0] at hk⟩, f _ _ (by omega), fun k hk => by simp [S0] at hk⟩, fun K => ?_⟩
  · rw [wM_old ht (by omega)]; exact ha
  · unfold qM; rw [u2_ne (Or.inr (by decide)), u2_ne (Or.inr (by decide)), u2_ne (Or.inr (by decide)), u2_ne (Or.inr (by decide)), u2_ne (Or.inr (by decide)), u2_ne (Or.inr (by decide)), u2_ne (Or.inr (by decide)), u2_ne (Or.inr (by decide)), u2_same]
  · unfold qM; rw [u2_ne (Or.inr (by decide)), u2_ne (Or.inr (by decide)), u2_ne (Or.inr (by decide)), u2_ne (Or.inr (by decide)), u2_ne (Or.inr (by decide)), u2_ne (Or.inr (by decide)), u2_ne (Or.inr (by decide)), u2_same]
  · unfold qM; rw [u2_ne (Or.inr (by decide)), u2_ne (Or.inr (by decide)), u2_ne (Or.inr (by decide)), u2_ne (Or.inr (by decide)), u2_ne (Or.inr (by decide)), u2_ne (Or.inr (by decide)), u2_same]
  · unfold qM; rw [u2_ne (Or.inr (by decide)), u2_ne (Or.inr (by decide)), u2_ne (Or.inr (by decide)), u2_ne (Or.inr (by decide)), u2_ne (Or.inr (by decide)), u2_same]
  · unfold qM; rw [u2_ne (Or.inr (by decide)), u2_ne (Or.inr (by decide)), u2_ne (Or.inr (by decide)), u2_ne (Or.inr (by decide)), u2_same]
  · unfold qM; rw [u2_ne (Or.inr (by decide)), u2_ne (Or.inr (by decide)), u2_ne (Or.inr (by decide)), u2_same]
  · unfold qM; rw [u2_ne (Or.inr (by decide)), u2_ne (Or.inr (by decide)), u2_same]
  · unfold qM; rw [u2_ne (Or.inr (by decide)), u2_same]
  · unfold qM; rw [u2_same]
  · unfold wM; rw [alc_old (by first | omega | (simp only [alc_top]; omega)), alc_old (by first | omega | (simp only [alc_top]; omega)), alc_old (by first | omega | (simp only [alc_top]; omega)), alc_old (by first | omega | (simp only [alc_top]; omega)), alc_old (by first | omega | (simp only [alc_top]; omega)), alc_old (by first | omega | (simp only [alc_top]; omega)), alc_old (by first | omega | (simp only [alc_top]; omega)), alc_old (by first | omega | (simp only [alc_top]; omega)), alc_new (by first | omega | (simp only [alc_top]; omega))]
  · unfold wM; rw [alc_old (by first | omega | (simp only [alc_top]; omega)), alc_old (by first | omega | (simp only [alc_top]; omega)), alc_old (by first | omega | (simp only [alc_top]; omega)), alc_old (by first | omega | (simp only [alc_top]; omega)), alc_old (by first | omega | (simp only [alc_top]; omega)), alc_old (by first | omega | (simp only [alc_top]; omega)), alc_old (by first | omega | (simp only [alc_top]; omega)), alc_new (by first | omega | (simp only [alc_top]; omega))]
  · unfold wM; rw [alc_old (by first | omega | (simp only [alc_top]; omega)), alc_old (by first | omega | (simp only [alc_top]; omega)), alc_old (by first | omega | (simp only [alc_top]; omega)), alc_old (by first | omega | (simp only [alc_top]; omega)), alc_old (by first | omega | (simp only [alc_top]; omega)), alc_old (by first | omega | (simp only [alc_top]; omega)), alc_new (by first | omega | (simp only [alc_top]; omega))]
  · unfold wM; rw [alc_old (by first | omega | (simp only [alc_top]; omega)), alc_old (by first | omega | (simp only [alc_top]; omega)), alc_old (by first | omega | (simp only [alc_top]; omega)), alc_old (by first | omega | (simp only [alc_top]; omega)), alc_old (by first | omega | (simp only [alc_top]; omega)), alc_new (by first | omega | (simp only [alc_top]; omega))]
  · unfold wM; rw [alc_old (by first | omega | (simp only [alc_top]; omega)), alc_old (by first | omega | (simp only [alc_top]; omega)), alc_old (by first | omega | (simp only [alc_top]; omega)), alc_old (by first | omega | (simp only [alc_top]; omega)), alc_new (by first | omega | (simp only [alc_top]; omega))]
  · unfold wM; rw [alc_old (by first | omega | (simp only [alc_top]; omega)), alc_old (by first | omega | (simp only [alc_top]; omega)), alc_old (by first | omega | (simp only [alc_top]; omega)), alc_new (by first | omega | (simp only [alc_top]; omega))]
  · unfold wM; rw [alc_old (by first | omega | (simp only [alc_top]; omega)), alc_old (by first | omega | (simp only [alc_top]; omega)), alc_new (by first | omega | (simp only [alc_top]; omega))]
  · unfold wM; rw [alc_old (by first | omega | (simp only [alc_top]; omega)), alc_new (by first | omega | (simp only [alc_top]; omega))]
  · unfold wM; rw [alc_new (by first | omega | (simp only [alc_top]; omega))]
  · unfold wM qM
    simp only [rX10_init_0, rX10_init_1, rX10_init_4, rX10_init_5, rX10_init_8, rX10_init_10, rX10_init_13, rX10_init_14, rX10_init_17, rX10_init_19, rX10_init_22, rX10_init_23, rX10_init_24, rX10_init_26, rX10_init_29, rX10_init_30, rX10_init_32, rX10_init_34, rX10_init_37, rX10_init_38, rX10_init_41, rX10_init_43, rX10_init_46, rX10_init_47, rX10_init_50, rX10_init_52, rX10_init_55, rX10_init_56, rX10_init_58, rX10_init_60, rX10_init_63, rX10_init_64, rX10_init_66, rX10_init_68, rX10_init_71, rX10_init_72, rX10_init_74, rX10_init_76, rX10_init_79, e373, e1865, e3, e30, e300, e10, alc_top, ht, ha, alc_old, Nat.reduceAdd, Nat.reduceLeDiff, show ¬ (373 : Int32) < 0 by decide, show ¬ (1865 : Int32) < 0 by decide, show ¬ (3 : Int32) < 0 by decide, show ¬ (30 : Int32) < 0 by decide, show ¬ (300 : Int32) < 0 by decide, show ¬ (10 : Int32) < 0 by decide, not_false_eq_true, true_and]
end DB
section DC
theorem mini_law : MiniLaw := by
  intro L xs hL
  have t0 : (alc (w0 L) (9, 0) 5).2.1 = 1 := rfl
  obtain ⟨w1, I1, Q1, m1, cs, k1⟩ := K_class (w := alc (w0 L) (9, 0) 5) (I := (h0 xs).1) (Q := (h0 xs).2.1) (J := (h0 xs).2.2) (alc_new rfl) t0 (fun c j hc => if_neg (by omega))
  have t1 : w1.2.1 = 269 := m1.1
  have z1 : w1.2.2 = 3314 := m1.2.1
  have o1 : w1.1 0 = (20, L) := by rw [m1.2.2.1 0 (by omega)]; rfl
  have f1 : frsh 269 I1 := fun c j hc => by rw [(m1.2.2.2 c (by omega)).1]; exact if_neg (by omega)
  have t2 : (alc w1 (10, 0) 18).2.1 = 270 := by rw [alc_top, t1]
  obtain ⟨ms, k2⟩ := K_model (w := alc w1 (10, 0) 18) (I := I1) (Q := Q1) (J := (h0 xs).2.2) (alc_new (by omega)) t2 f1
  have e0 : (wM (alc w1 (10, 0) 18)).1 0 = (20, L) := by rw [wM_old t2 (by omega), alc_old (by omega)]; exact o1
  have cs2 : CS (wM (alc w1 (10, 0) 18)) I1 (qM Q1) S0 := cs.mk (fun c hc => by rw [wM_old t2 (by omega), alc_old (by omega)]) (fun c hc => qM_old (by omega))
  have run : WP mL_law 0 [.ref 0, .null, .null, .null] [] (w0 L) (h0 xs) (fun r w' _ => r = some (.int 1) ∧ w' = wM (alc w1 (10, 0) 18)) := by
    rw [rL_law_0]
    show WP mL_law 3 [.ref 0, .null, .null, .null] [.ref 1] (alc (w0 L) (9, 0) 5) ((h0 xs).1, (h0 xs).2.1, (h0 xs).2.2) _
    simp only [rL_law_3, rL_law_4, alc_new (show 1 = (w0 L).2.1 + 1 from rfl), true_and]
    rw [k1]
    simp only [tl_none, List.nil_append, rL_law_7, rL_law_8, rL_law_11, t1]
    rw [show (269 : Nat) + 1 = 270 from rfl]
    simp only [rL_law_12, alc_new (show 270 = w1.2.1 + 1 by omega), true_and]
    rw [k2]
    simp only [tl_none, List.nil_append, rL_law_15, rL_law_16, rL_law_17]
    exact L_loop hL e0 (L + 1) 0 I1 (qM Q1) (h0 xs).2.2 S0 (by omega) (by omega) cs2 ms
  obtain ⟨n, r, w', h', e, hr, hw⟩ := run
  subst hr
  refine ⟨n, w', h', e, ?_, ?_⟩
  · rw [hw]; unfold wM; simp only [alc_top]; omega
  · rw [hw]; unfold wM; simp only [alc_siz]; omega
end DC
