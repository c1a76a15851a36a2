section M4
variable {w : WS} {I : Nat → Nat → Int32} {Q : Nat → Nat → Option Nat} {J : Nat → Nat → Int64} {h : HS} {P : List Nat} {l : List Int32} {k t : Nat} {W : List (List Int32)} {c : List (Int32 × Int32)}
theorem capM {x : Int32} (hx : isC x) : x - 65 + 1 = nI (x.toNatClampNeg - 64) := by
  have h0 : ¬ x < 0 := by
    have := hx.1
    rw [Int32.lt_iff_toInt_lt, Int32.le_iff_toInt_le] at *
    have e : (65 : Int32).toInt = 65 := by decide
    have e0 : (0 : Int32).toInt = 0 := by decide
    omega
  obtain ⟨j, hj, rfl⟩ := nI_of h0
  have h1 : 65 ≤ j := (nI_leI (by decide) hj).mp hx.1
  rw [nI_clamp hj, show nI j - 65 = nI (j - 65) from pk_sub h1, nI_1]
  congr 1; omega
theorem M_code (ok : mOK w Q) (hl : l.length ≤ 30) (hk : k < 10) (r : lnM (I 271) k l) (hW : wdV W) (hw1 : I 271 1 = nI W.length) (hwd : ∀ x, x < W.length → wdM (I 271) x (W.getD x [])) (hP : stV (P, 0)) (ht : topP P = 0) (hi : c.length < l.length) (ht26 : t ≤ 26) (s : pmS I k c P) : ∃ I', mDo I I' k c P (stepP W l c.length P t) ∧ ∀ K, (WP mX10_paintsCode 0 [.ref 270, .int (nI t), .null, .null, .null] [] w (I, Q, J) K ↔ K (some (.int (nI (stepP W l c.length P t).2.2.2))) w (I', Q, J)) := by
  obtain ⟨o, ⟨q0, -⟩, w1, -⟩ := id ok
  have h1 : 1 ≤ P.length := hP.1
  have h6 : P.length ≤ 6 := hP.2.1
  have hb : ∀ {K : Option Value → WS → HS → Prop}, WP mX10_paintsCode 0 [.ref 270, .int (nI t), .null, .null, .null] [] w (I, Q, J) K ↔ if isL (l.getD c.length 0) then WP mX10_paintsCode 16 [.ref 270, .int (nI t), .int (l.getD c.length 0), .null, .null] [] w (I, Q, J) K else if isF (l.getD c.length 0) then WP mX10_paintsCode 53 [.ref 270, .int (nI t), .int (l.getD c.length 0), .null, .null] [] w (I, Q, J) K else WP mX10_paintsCode 65 [.ref 270, .int (nI t), .int (l.getD c.length 0), .null, .null] [] w (I, Q, J) K := by
    intro K
    simp only [rX10_paintsCode_0, rX10_paintsCode_1, rX10_paintsCode_2, rX10_paintsCode_5, o, s.2.2.1, true_and]
    rw [M_byteAt ok hl hk (by omega) r s.2.1]
    simp only [tl_some, rX10_paintsCode_8, rX10_paintsCode_9, rX10_paintsCode_10, rX10_paintsCode_13, M_isLetter, if10]
    simp only [rX10_paintsCode_46, rX10_paintsCode_47, rX10_paintsCode_50, M_isFigure, tl_some, if10]
  unfold stepP
  rw [if_neg (by omega), if_neg (by omega)]
  by_cases hL : isL (l.getD c.length 0)
  · rw [if_pos hL]
    have hrun := runE_le (fun c => decide (isL c)) l (l.length - (c.length + 1)) (c.length + 1)
    have hlet : ∀ {K : Option Value → WS → HS → Prop}, WP mX10_letters 0 [.ref 270, .null] [] w (I, Q, J) K ↔ K (some (.int (nI (runE (fun c => decide (isL c)) l (l.length - (c.length + 1)) (c.length + 1) - c.length)))) w (I, Q, J) := by
      intro K
      have := M_letters_loop (J := J) (K := K) ok hl hk r s.2.1 s.2.2.1 (by omega) (l.length - (c.length + 1) + 1) 0 (by omega)
      simp only [runE, decide_eq_true_eq, Nat.add_zero] at this
      rw [if_pos hL] at this
      rw [← this]
      simp only [rX10_letters_0, rX10_letters_1]
      rfl
    obtain ⟨I1, f1, f2, f3⟩ := M_col (J := J) (n := runE (fun c => decide (isL c)) l (l.length - (c.length + 1)) (c.length + 1) - c.length) (x := if hasW W ((l.drop c.length).take (runE (fun c => decide (isL c)) l (l.length - (c.length + 1)) (c.length + 1) - c.length)) W.length 0 then 2 else 1) ok hP hk (by omega) s
    refine ⟨I1, ⟨f1, f2⟩, fun K => ?_⟩
    rw [hb, if_pos hL]
    simp only [rX10_paintsCode_16, rX10_paintsCode_17, o, true_and, hlet, tl_some]
    simp only [rX10_paintsCode_20, rX10_paintsCode_21, rX10_paintsCode_22, rX10_paintsCode_23, rX10_paintsCode_24, rX10_paintsCode_25, rX10_paintsCode_28, rX10_paintsCode_29, o, s.2.2.1, true_and]
    rw [M_isWord ok hl hk r s.2.1 (by omega) hW hw1 hwd]
    simp only [tl_some, List.cons_append, List.nil_append, rX10_paintsCode_32, rX10_paintsCode_35, rX10_paintsCode_36, rX10_paintsCode_39, rX10_paintsCode_40, if10, o, true_and]
    by_cases q : hasW W ((l.drop c.length).take (runE (fun c => decide (isL c)) l (l.length - (c.length + 1)) (c.length + 1) - c.length)) W.length 0 = true
    · rw [if_pos q] at f3 ⊢
      rw [f3]
      simp only [tl_none, rX10_paintsCode_43, rX10_paintsCode_290, rX10_paintsCode_291]
    · rw [if_neg q] at f3 ⊢
      rw [f3]
      simp only [tl_none, rX10_paintsCode_43, rX10_paintsCode_290, rX10_paintsCode_291]
  · rw [if_neg hL]
    by_cases hF : isF (l.getD c.length 0)
    · rw [if_pos hF]
      have hrun := runE_le (fun c => decide (isF c)) l (l.length - (c.length + 1)) (c.length + 1)
      have hlet : ∀ {K : Option Value → WS → HS → Prop}, WP mX10_figures 0 [.ref 270, .null] [] w (I, Q, J) K ↔ K (some (.int (nI (runE (fun c => decide (isF c)) l (l.length - (c.length + 1)) (c.length + 1) - c.length)))) w (I, Q, J) := by
        intro K
        have := M_figures_loop (J := J) (K := K) ok hl hk r s.2.1 s.2.2.1 (by omega) (l.length - (c.length + 1) + 1) 0 (by omega)
        simp only [runE, decide_eq_true_eq, Nat.add_zero] at this
        rw [if_pos hF] at this
        rw [← this]
        simp only [rX10_figures_0, rX10_figures_1]
        rfl
      obtain ⟨I1, f1, f2, f3⟩ := M_col (J := J) (n := runE (fun c => decide (isF c)) l (l.length - (c.length + 1)) (c.length + 1) - c.length) (x := 3) ok hP hk (by omega) s
      refine ⟨I1, ⟨f1, f2⟩, fun K => ?_⟩
      rw [hb, if_neg hL, if_pos hF]
      simp only [rX10_paintsCode_53, rX10_paintsCode_54, rX10_paintsCode_55, o, true_and, hlet, tl_some]
      simp only [List.cons_append, List.nil_append, rX10_paintsCode_58, rX10_paintsCode_59, o, true_and]
      rw [f3]
      simp only [tl_none, rX10_paintsCode_62, rX10_paintsCode_290, rX10_paintsCode_291]
    · rw [if_neg hF]
      have hc : ∀ {K : Option Value → WS → HS → Prop}, WP mX10_paintsCode 0 [.ref 270, .int (nI t), .null, .null, .null] [] w (I, Q, J) K ↔ WP mX10_paintsCode 65 [.ref 270, .int (nI t), .int (l.getD c.length 0), .null, .null] [] w (I, Q, J) K := by
        intro K
        rw [hb, if_neg hL, if_neg hF]
      generalize hx : l.getD c.length 0 = x at *
      -- a quote, or a remark's begin
      have hpush : ∀ (y : Nat) (z : Int32), y < 4 → ∃ I', (pmS I' k (c ++ List.replicate (c.length + 1 - c.length) (if P.length < 6 then z else 6, mdI (topP P))) (pushP P y) ∧ FrM k I I') ∧ ∀ K, (WP mX10_pushes 0 [.ref 270, .int (nI y), .int z, .null, .null] [] w (I, Q, J) K ↔ K none w (I', Q, J)) := fun y z hy => by
        obtain ⟨I', f1, f2, f3⟩ := M_pushes (J := J) (x := y) (y := z) ok hP hk (show c.length + 1 ≤ 30 by omega) hy s
        exact ⟨I', ⟨by rw [Nat.add_sub_cancel_left]; exact f1, f2⟩, f3⟩
      by_cases e35 : x = 35
      · rw [if_pos e35]
        obtain ⟨I1, f1, f2, f3⟩ := M_col (J := J) (n := l.length - c.length) (x := 5) ok hP hk (by omega) s
        refine ⟨I1, ⟨f1, f2⟩, fun K => ?_⟩
        rw [hc]
        subst e35
        simp only [rX10_paintsCode_65, rX10_paintsCode_66, rX10_paintsCode_68, rX10_paintsCode_71, rX10_paintsCode_72, rX10_paintsCode_74, rX10_paintsCode_96, rX10_paintsCode_97, rX10_paintsCode_99, rX10_paintsCode_111, rX10_paintsCode_112, rX10_paintsCode_114, rX10_paintsCode_117, rX10_paintsCode_118, rX10_paintsCode_119, rX10_paintsCode_122, rX10_paintsCode_123, rX10_paintsCode_124, rX10_paintsCode_127, rX10_paintsCode_128, rX10_paintsCode_129, rX10_paintsCode_130, rX10_paintsCode_133, rX10_paintsCode_134, rX10_paintsCode_135, o, q0, w1, rf_some, s.2.1, s.2.2.1, true_and, ixL, vin_nI (show 3 + k < 373 by omega) (by decide), nI_clamp (show 3 + k < 2 ^ 31 by omega), r.1, show nI l.length - nI c.length = nI (l.length - c.length) from pk_sub (by omega)]
        rw [if_neg (by decide), if_pos (by decide), if_pos (by decide), if_neg (by simp), f3]
        simp only [tl_none, rX10_paintsCode_138, rX10_paintsCode_290, rX10_paintsCode_291]
      · rw [if_neg e35]
        by_cases e60 : (x = 60 ∧ c.length + 1 < l.length ∧ isC (l.getD (c.length + 1) 0)) ∧ P.length = 1 ∧ t = 0
        · rw [if_pos e60]
          obtain ⟨⟨e1, e2, e3⟩, e4, e5⟩ := e60
          obtain ⟨I1, f1, f2, f3⟩ := M_col (J := J) (n := 2) (x := 7) ok hP hk (by omega) s
          refine ⟨I1, ⟨by rw [Nat.add_sub_cancel_left]; exact f1, f2⟩, fun K => ?_⟩
          rw [hc]
          subst e1
          subst e5
          simp only [rX10_paintsCode_65, rX10_paintsCode_66, rX10_paintsCode_68, rX10_paintsCode_71, rX10_paintsCode_72, rX10_paintsCode_74, rX10_paintsCode_96, rX10_paintsCode_97, rX10_paintsCode_99, rX10_paintsCode_111, rX10_paintsCode_112, rX10_paintsCode_114, rX10_paintsCode_141, rX10_paintsCode_142, rX10_paintsCode_144, rX10_paintsCode_221, rX10_paintsCode_222, rX10_paintsCode_224, rX10_paintsCode_227, rX10_paintsCode_228, rX10_paintsCode_229, rX10_paintsCode_232, rX10_paintsCode_233, rX10_paintsCode_234, o, s.2.2.1, true_and, nI_1, M_byteAt ok hl hk (show c.length + 1 < 1000 by omega) r s.2.1, tl_some]
          simp only [rX10_paintsCode_237, rX10_paintsCode_239, rX10_paintsCode_241, M_in, tl_some]
          simp only [rX10_paintsCode_244, rX10_paintsCode_247, rX10_paintsCode_248, rX10_paintsCode_251, rX10_paintsCode_252, rX10_paintsCode_255, rX10_paintsCode_256, rX10_paintsCode_259, rX10_paintsCode_260, rX10_paintsCode_261, rX10_paintsCode_264, rX10_paintsCode_265, rX10_paintsCode_266, o, s.1.2, s.2.2.1, e4, true_and, nI_1, M_byteAt ok hl hk (show c.length + 1 < 1000 by omega) r s.2.1, tl_some]
          simp only [rX10_paintsCode_269, rX10_paintsCode_271, rX10_paintsCode_272, rX10_paintsCode_273, rX10_paintsCode_274, rX10_paintsCode_275, rX10_paintsCode_276, rX10_paintsCode_277, rX10_paintsCode_279, o, true_and, capM e3]
          rw [if_neg (by decide), if_pos (by decide), if_pos (by decide), if_pos (by decide), if_pos (by decide), if_neg (by decide), if_pos e3, if_neg (by decide), if_neg (by decide), if_neg (by decide), show (2 : Int32) = nI 2 from rfl, f3]
          simp only [tl_none, rX10_paintsCode_282, rX10_paintsCode_283]
        · rw [if_neg e60]
          unfold codC codP
          by_cases e34 : x = 34
          · obtain ⟨I', f1, f3⟩ := hpush 1 4 (by decide)
            refine ⟨I', by rw [if_pos (Or.inl e34), if_pos e34]; exact f1, fun K => ?_⟩
            rw [hc]
            subst e34
            simp only [rX10_paintsCode_65, rX10_paintsCode_66, rX10_paintsCode_68, rX10_paintsCode_71, rX10_paintsCode_72, rX10_paintsCode_74, rX10_paintsCode_77, rX10_paintsCode_78, rX10_paintsCode_79, rX10_paintsCode_81, rX10_paintsCode_84, rX10_paintsCode_85, rX10_paintsCode_88, rX10_paintsCode_89, rX10_paintsCode_90, o, true_and]
            rw [if_pos trivial, if_neg (by simp), show (1 : Int32) = nI 1 from rfl, f3]
            simp only [tl_none, rX10_paintsCode_93, rX10_paintsCode_290, rX10_paintsCode_291]
          · by_cases e39 : x = 39
            · obtain ⟨I', f1, f3⟩ := hpush 2 4 (by decide)
              refine ⟨I', by rw [if_pos (Or.inr e39), if_neg e34, if_pos e39]; exact f1, fun K => ?_⟩
              rw [hc]
              subst e39
              simp only [rX10_paintsCode_65, rX10_paintsCode_66, rX10_paintsCode_68, rX10_paintsCode_71, rX10_paintsCode_72, rX10_paintsCode_74, rX10_paintsCode_77, rX10_paintsCode_78, rX10_paintsCode_79, rX10_paintsCode_81, rX10_paintsCode_84, rX10_paintsCode_85, rX10_paintsCode_88, rX10_paintsCode_89, rX10_paintsCode_90, o, true_and]
              rw [if_neg (by decide), if_neg (by simp), if_pos (by decide), show (2 : Int32) = nI 2 from rfl, f3]
              simp only [tl_none, rX10_paintsCode_93, rX10_paintsCode_290, rX10_paintsCode_291]
            · rw [if_neg (fun z => z.elim e34 e39), if_neg e34, if_neg e39]
              have hc2 : ∀ {K : Option Value → WS → HS → Prop}, WP mX10_paintsCode 0 [.ref 270, .int (nI t), .null, .null, .null] [] w (I, Q, J) K ↔ WP mX10_paintsCode 96 [.ref 270, .int (nI t), .int x, .null, .null] [] w (I, Q, J) K := by
                intro K
                rw [hc]
                simp only [rX10_paintsCode_65, rX10_paintsCode_66, rX10_paintsCode_68, rX10_paintsCode_71, rX10_paintsCode_72, rX10_paintsCode_74]
                rw [if_neg e34, if_pos e39]
              by_cases e91 : x = 91
              · obtain ⟨I', f1, f3⟩ := hpush 3 5 (by decide)
                refine ⟨I', by rw [if_pos e91, if_pos e91]; exact f1, fun K => ?_⟩
                rw [hc2]
                simp only [rX10_paintsCode_96, rX10_paintsCode_97, rX10_paintsCode_99, rX10_paintsCode_102, rX10_paintsCode_103, rX10_paintsCode_104, rX10_paintsCode_105, o, true_and]
                rw [if_neg (fun z => z e91), show (3 : Int32) = nI 3 from rfl, f3]
                simp only [tl_none, rX10_paintsCode_108, rX10_paintsCode_290, rX10_paintsCode_291]
              · rw [if_neg e91, if_neg e91]
                have hc3 : ∀ {K : Option Value → WS → HS → Prop}, WP mX10_paintsCode 0 [.ref 270, .int (nI t), .null, .null, .null] [] w (I, Q, J) K ↔ WP mX10_paintsCode 141 [.ref 270, .int (nI t), .int x, .null, .null] [] w (I, Q, J) K := by
                  intro K
                  rw [hc2]
                  simp only [rX10_paintsCode_96, rX10_paintsCode_97, rX10_paintsCode_99, rX10_paintsCode_111, rX10_paintsCode_112, rX10_paintsCode_114]
                  rw [if_pos e91, if_pos e35]
                by_cases e125 : x = 125
                · rw [if_pos e125, if_pos e125]
                  have hlow : ∀ {K : Option Value → WS → HS → Prop}, WP mX10_paintsCode 0 [.ref 270, .int (nI t), .null, .null, .null] [] w (I, Q, J) K ↔ ∃ v3, WP mX10_paintsCode 190 [.ref 270, .int (nI t), .int x, v3, .null] [.int (if lies P then 1 else 0)] w (I, Q, J) K ∧ v3 = .int (nI (if 1 < P.length then P.getD (P.length - 2) 0 else 0)) := by
                    intro K
                    rw [hc3]
                    simp only [rX10_paintsCode_141, rX10_paintsCode_142, rX10_paintsCode_144, rX10_paintsCode_147, rX10_paintsCode_148, rX10_paintsCode_151, o, s.1.2, true_and]
                    rw [if_neg (fun z => z e125), rX10_paintsCode_152]
                    have fin : ∀ (y : Nat), y < 4 → (lies P ↔ y = 1 ∨ y = 2) → (WP mX10_paintsCode 174 [.ref 270, .int (nI t), .int x, .null, .null] [.int (nI y)] w (I, Q, J) K ↔ WP mX10_paintsCode 190 [.ref 270, .int (nI t), .int x, .int (nI y), .null] [.int (if lies P then 1 else 0)] w (I, Q, J) K) := by
                      intro y hy hyl
                      simp only [rX10_paintsCode_174, rX10_paintsCode_175, rX10_paintsCode_176, rX10_paintsCode_177, rX10_paintsCode_180, rX10_paintsCode_181, rX10_paintsCode_182, rX10_paintsCode_185, rX10_paintsCode_186, rX10_paintsCode_189]
                      rcases (show y = 0 ∨ y = 1 ∨ y = 2 ∨ y = 3 by omega) with rfl | rfl | rfl | rfl
                      · rw [if_neg (by decide), if_pos (by decide), if_neg (fun z => by have := hyl.mp z; omega)]
                      · rw [if_neg (by decide), if_neg (by decide), if_pos (hyl.mpr (Or.inl rfl))]
                      · rw [if_pos (by decide), if_pos (hyl.mpr (Or.inr rfl))]
                      · rw [if_neg (by decide), if_pos (by decide), if_neg (fun z => by have := hyl.mp z; omega)]
                    by_cases q : 1 < P.length
                    · rw [if_neg (show ¬ nI P.length ≤ 1 from nI_ge q (by omega)), if_pos q]
                      simp only [rX10_paintsCode_155, rX10_paintsCode_156, rX10_paintsCode_159, rX10_paintsCode_160, rX10_paintsCode_161, rX10_paintsCode_164, rX10_paintsCode_165, rX10_paintsCode_166, rX10_paintsCode_167, rX10_paintsCode_168, rX10_paintsCode_169, rX10_paintsCode_170, o, s.1.1, s.1.2, true_and, show nI P.length - 2 = nI (P.length - 2) from pk_sub (show 2 ≤ P.length by omega), nI_mul2 (show 2 * (P.length - 2) < 2 ^ 31 by omega), pl_at hP.2.2.1 h6 (show P.length - 2 < 6 by omega)]
                      rw [fin _ (hP.2.2.1 (P.length - 2) (by dsimp only; omega)) ⟨fun z => z.2, fun z => ⟨by omega, z⟩⟩]
                      exact ⟨fun z => ⟨_, z, rfl⟩, fun ⟨v, z1, z2⟩ => by rw [z2] at z1; exact z1⟩
                    · rw [if_pos (show nI P.length ≤ 1 from nI_le (show P.length ≤ 1 by omega) (by decide)), if_neg q]
                      simp only [rX10_paintsCode_173]
                      rw [show (0 : Int32) = nI 0 from rfl, fin 0 (by decide) ⟨fun z => by have := z.1; omega, fun z => by omega⟩]
                      exact ⟨fun z => ⟨_, z, rfl⟩, fun ⟨v, z1, z2⟩ => by rw [z2] at z1; exact z1⟩
                  obtain ⟨I1, f1, f2, f3⟩ := M_col (J := J) (n := 1) (x := if lies P then 7 else 6) ok hP hk (by omega) s
                  have hlow2 : ∀ {K : Option Value → WS → HS → Prop}, WP mX10_paintsCode 0 [.ref 270, .int (nI t), .null, .null, .null] [] w (I, Q, J) K ↔ WP mX10_paintsCode 190 [.ref 270, .int (nI t), .int x, .int (nI (if 1 < P.length then P.getD (P.length - 2) 0 else 0)), .null] [.int (if lies P then 1 else 0)] w (I, Q, J) K := by
                    intro K
                    rw [hlow]
                    exact ⟨fun ⟨v, z1, z2⟩ => by rw [z2] at z1; exact z1, fun z => ⟨_, z, rfl⟩⟩
                  by_cases hli : lies P
                  · obtain ⟨I2, g1, g2, g3⟩ := M_off (J := J) ok hP f1
                    rw [if_pos hli] at f3
                    refine ⟨I2, ⟨by rw [Nat.add_sub_cancel_left, if_pos hli (e := P)]; exact g1, f2.tr g2⟩, fun K => ?_⟩
                    rw [hlow2, if_pos hli]
                    simp only [rX10_paintsCode_190, rX10_paintsCode_192, rX10_paintsCode_193, rX10_paintsCode_194, rX10_paintsCode_196, rX10_paintsCode_199, rX10_paintsCode_201, rX10_paintsCode_204, rX10_paintsCode_206, o, true_and]
                    rw [if_neg (by decide), show (1 : Int32) = nI 1 from rfl, f3]
                    simp only [tl_none, rX10_paintsCode_209, rX10_paintsCode_211, rX10_paintsCode_214, rX10_paintsCode_215, o, true_and]
                    rw [if_neg (by decide), g3]
                    simp only [tl_none, rX10_paintsCode_218, rX10_paintsCode_290, rX10_paintsCode_291]
                  · rw [if_neg hli] at f3
                    refine ⟨I1, ⟨by rw [Nat.add_sub_cancel_left, if_neg hli (e := P)]; exact f1, f2⟩, fun K => ?_⟩
                    rw [hlow2, if_neg hli]
                    simp only [rX10_paintsCode_190, rX10_paintsCode_192, rX10_paintsCode_193, rX10_paintsCode_194, rX10_paintsCode_196, rX10_paintsCode_199, rX10_paintsCode_201, rX10_paintsCode_204, rX10_paintsCode_206, o, true_and]
                    rw [if_pos trivial, show (1 : Int32) = nI 1 from rfl, f3]
                    simp only [tl_none, rX10_paintsCode_209, rX10_paintsCode_211, rX10_paintsCode_218, rX10_paintsCode_290, rX10_paintsCode_291, if_true]
                · rw [if_neg e125, if_neg e125]
                  obtain ⟨I1, f1, f2, f3⟩ := M_col (J := J) (n := 1) (x := 0) ok hP hk (by omega) s
                  refine ⟨I1, ⟨by rw [Nat.add_sub_cancel_left]; exact f1, f2⟩, fun K => ?_⟩
                  rw [hc3]
                  have fin : ∀ {v3 : Value}, WP mX10_paintsCode 284 [.ref 270, .int (nI t), .int x, v3, .null] [] w (I, Q, J) K ↔ K (some (.int (nI t))) w (I1, Q, J) := by
                    intro v3
                    simp only [rX10_paintsCode_284, rX10_paintsCode_285, rX10_paintsCode_286, rX10_paintsCode_287, o, true_and]
                    rw [show (1 : Int32) = nI 1 from rfl, f3]
                    simp only [tl_none, rX10_paintsCode_290, rX10_paintsCode_291]
                  simp only [rX10_paintsCode_141, rX10_paintsCode_142, rX10_paintsCode_144, rX10_paintsCode_221, rX10_paintsCode_222, rX10_paintsCode_224, rX10_paintsCode_227, rX10_paintsCode_228, rX10_paintsCode_229, rX10_paintsCode_232, rX10_paintsCode_233, rX10_paintsCode_234, o, s.2.2.1, true_and, nI_1, M_byteAt ok hl hk (show c.length + 1 < 1000 by omega) r s.2.1, tl_some]
                  simp only [rX10_paintsCode_237, rX10_paintsCode_239, rX10_paintsCode_241, M_in, tl_some]
                  simp only [rX10_paintsCode_244, rX10_paintsCode_247, rX10_paintsCode_248, rX10_paintsCode_251, rX10_paintsCode_252, rX10_paintsCode_255, rX10_paintsCode_256, o, s.1.2, true_and, if10, fin]
                  rw [if_pos e125]
                  by_cases z1 : x = 60
                  · rw [if_neg (fun z => z z1)]
                    by_cases z2 : 65 ≤ l.getD (c.length + 1) 0 ∧ l.getD (c.length + 1) 0 ≤ 90
                    · rw [if_pos z2]
                      by_cases z3 : P.length = 1
                      · rw [if_neg (fun z => z (by rw [z3]; rfl))]
                        by_cases z4 : t = 0
                        · exfalso
                          apply e60
                          refine ⟨⟨z1, ?_, z2⟩, z3, z4⟩
                          rcases Nat.lt_or_ge (c.length + 1) l.length with q | q
                          · exact q
                          · exfalso
                            have := z2.1
                            rw [show l.getD (c.length + 1) 0 = 0 by rw [List.getD_eq_getElem?_getD, List.getElem?_eq_none (by omega)]; rfl] at this
                            exact absurd this (by decide)
                        · rw [if_pos (show ¬ nI t = 0 from fun z => z4 (nI_inj (b := 0) (by omega) (by decide) z))]
                      · rw [if_pos (show ¬ nI P.length = 1 from fun z => z3 (nI_inj (b := 1) (by omega) (by decide) z))]
                    · rw [if_neg z2]
                  · rw [if_pos z1]
end M4
