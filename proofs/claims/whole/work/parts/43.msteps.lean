/-! ===== the reference: the three ways of painting ===== -/
def mDo (I I' : Nat → Nat → Int32) (k : Nat) (c : List (Int32 × Int32)) (P : List Nat) (s : Nat × Int32 × List Nat × Nat) : Prop := pmS I' k (c ++ List.replicate (s.1 - c.length) (s.2.1, mdI (topP P))) s.2.2.1 ∧ FrM k I I'
section M3
variable {w : WS} {I : Nat → Nat → Int32} {Q : Nat → Nat → Option Nat} {J : Nat → Nat → Int64} {h : HS} {P : List Nat} {l : List Int32} {k t : Nat} {W : List (List Int32)} {c : List (Int32 × Int32)}
theorem FrM.now {I' : Nat → Nat → Int32} (f : FrM k I I') : I' 271 = I 271 := f.1 271 (by decide) (by decide) (by decide)
theorem M_remark (ok : mOK w Q) (hl : l.length ≤ 30) (hk : k < 10) (r : lnM (I 271) k l) (hP : stV (P, 0)) (ht : topP P = 3) (hi : c.length < l.length) (s : pmS I k c P) : ∃ I', mDo I I' k c P (stepP W l c.length P t) ∧ ∀ K, (WP mX10_paintsRemark 0 [.ref 270, .null] [] w (I, Q, J) K ↔ K none w (I', Q, J)) := by
  have hb : ∀ {K : Option Value → WS → HS → Prop}, WP mX10_paintsRemark 0 [.ref 270, .null] [] w (I, Q, J) K ↔ WP mX10_paintsRemark 9 [.ref 270, .int (l.getD c.length 0)] [] w (I, Q, J) K := by
    intro K
    simp only [rX10_paintsRemark_0, rX10_paintsRemark_1, rX10_paintsRemark_2, rX10_paintsRemark_5, ok.1, s.2.2.1, true_and]
    rw [M_byteAt ok hl hk (by omega) r s.2.1]
    simp only [tl_some, rX10_paintsRemark_8]
  unfold stepP
  rw [if_pos ht]
  unfold mDo
  dsimp only
  rw [Nat.add_sub_cancel_left]
  unfold remC remP
  by_cases h1 : l.getD c.length 0 = 91
  · obtain ⟨I', f1, f2, f3⟩ := M_pushes (J := J) (x := 3) (y := 5) ok hP hk (show c.length + 1 ≤ 30 by omega) (by decide) s
    refine ⟨I', ⟨by rw [if_pos h1, if_pos h1]; exact f1, f2⟩, fun K => ?_⟩
    rw [hb]
    simp only [rX10_paintsRemark_9, rX10_paintsRemark_10, rX10_paintsRemark_12, rX10_paintsRemark_15, rX10_paintsRemark_16, rX10_paintsRemark_17, rX10_paintsRemark_18, ok.1, true_and]
    rw [if_neg (fun z => z h1), show (3 : Int32) = nI 3 from rfl, f3]
    simp only [tl_none, rX10_paintsRemark_21]
  · rw [if_neg h1, if_neg h1]
    obtain ⟨I1, f1, f2, f3⟩ := M_col (J := J) (n := 1) (x := 5) ok hP hk (show c.length + 1 ≤ 30 by omega) s
    by_cases h2 : l.getD c.length 0 = 93
    · obtain ⟨I2, g1, g2, g3⟩ := M_off (J := J) ok hP f1
      refine ⟨I2, ⟨by rw [if_pos h2]; exact g1, f2.tr g2⟩, fun K => ?_⟩
      rw [hb]
      simp only [rX10_paintsRemark_9, rX10_paintsRemark_10, rX10_paintsRemark_12, rX10_paintsRemark_22, rX10_paintsRemark_23, rX10_paintsRemark_24, rX10_paintsRemark_25, ok.1, true_and]
      rw [if_pos h1, show (1 : Int32) = nI 1 from rfl, f3]
      simp only [tl_none, rX10_paintsRemark_28, rX10_paintsRemark_29, rX10_paintsRemark_31, rX10_paintsRemark_34, rX10_paintsRemark_35, ok.1, true_and]
      rw [if_neg (fun z => z h2), g3]
      simp only [tl_none, rX10_paintsRemark_38]
    · refine ⟨I1, ⟨by rw [if_neg h2]; exact f1, f2⟩, fun K => ?_⟩
      rw [hb]
      simp only [rX10_paintsRemark_9, rX10_paintsRemark_10, rX10_paintsRemark_12, rX10_paintsRemark_22, rX10_paintsRemark_23, rX10_paintsRemark_24, rX10_paintsRemark_25, ok.1, true_and]
      rw [if_pos h1, show (1 : Int32) = nI 1 from rfl, f3]
      simp only [tl_none, rX10_paintsRemark_28, rX10_paintsRemark_29, rX10_paintsRemark_31, rX10_paintsRemark_34, rX10_paintsRemark_35, rX10_paintsRemark_38, ok.1, true_and]
      rw [if_pos h2]
theorem M_string (ok : mOK w Q) (hl : l.length ≤ 30) (hk : k < 10) (r : lnM (I 271) k l) (hP : stV (P, 0)) (ht : topP P = 1 ∨ topP P = 2) (hi : c.length < l.length) (s : pmS I k c P) : ∃ I', mDo I I' k c P (stepP W l c.length P t) ∧ ∀ K, (WP mX10_paintsString 0 [.ref 270, .null, .null] [] w (I, Q, J) K ↔ K none w (I', Q, J)) := by
  obtain ⟨o, ⟨q0, -⟩, w1, -⟩ := id ok
  have hb : ∀ {K : Option Value → WS → HS → Prop}, WP mX10_paintsString 0 [.ref 270, .null, .null] [] w (I, Q, J) K ↔ WP mX10_paintsString 9 [.ref 270, .int (l.getD c.length 0), .null] [] w (I, Q, J) K := by
    intro K
    simp only [rX10_paintsString_0, rX10_paintsString_1, rX10_paintsString_2, rX10_paintsString_5, o, s.2.2.1, true_and]
    rw [M_byteAt ok hl hk (by omega) r s.2.1]
    simp only [tl_some, rX10_paintsString_8]
  unfold stepP
  rw [if_neg (by omega), if_pos ht]
  by_cases h0 : l.getD c.length 0 = 92 ∧ c.length + 1 < l.length
  · rw [if_pos h0]
    unfold mDo
    dsimp only
    rw [Nat.add_sub_cancel_left]
    obtain ⟨I1, f1, f2, f3⟩ := M_col (J := J) (n := 2) (x := 7) ok hP hk (show c.length + 2 ≤ 30 by omega) s
    refine ⟨I1, ⟨f1, f2⟩, fun K => ?_⟩
    rw [hb]
    simp only [rX10_paintsString_9, rX10_paintsString_10, rX10_paintsString_12, rX10_paintsString_15, rX10_paintsString_16, rX10_paintsString_19, rX10_paintsString_20, rX10_paintsString_21, rX10_paintsString_22, rX10_paintsString_25, rX10_paintsString_26, rX10_paintsString_27, rX10_paintsString_30, rX10_paintsString_31, rX10_paintsString_32, rX10_paintsString_35, rX10_paintsString_36, rX10_paintsString_37, rX10_paintsString_39, o, q0, w1, rf_some, s.2.1, s.2.2.1, true_and, ixL, vin_nI (show 3 + k < 373 by omega) (by decide), nI_clamp (show 3 + k < 2 ^ 31 by omega), r.1, nI_1]
    rw [if_neg (fun z => z h0.1), if_neg (nI_ge h0.2 (by omega)), show (2 : Int32) = nI 2 from rfl, f3]
    simp only [tl_none, rX10_paintsString_42, rX10_paintsString_100]
  · rw [if_neg h0]
    unfold mDo
    dsimp only
    rw [Nat.add_sub_cancel_left]
    have hc : ∀ {K : Option Value → WS → HS → Prop}, WP mX10_paintsString 0 [.ref 270, .null, .null] [] w (I, Q, J) K ↔ WP mX10_paintsString 45 [.ref 270, .int (l.getD c.length 0), .null] [] w (I, Q, J) K := by
      intro K
      rw [hb]
      simp only [rX10_paintsString_9, rX10_paintsString_10, rX10_paintsString_12, rX10_paintsString_15, rX10_paintsString_16, rX10_paintsString_19, rX10_paintsString_20, rX10_paintsString_21, rX10_paintsString_22, rX10_paintsString_25, rX10_paintsString_26, rX10_paintsString_27, rX10_paintsString_30, rX10_paintsString_31, rX10_paintsString_32, o, q0, w1, rf_some, s.2.1, s.2.2.1, true_and, ixL, vin_nI (show 3 + k < 373 by omega) (by decide), nI_clamp (show 3 + k < 2 ^ 31 by omega), r.1, nI_1]
      by_cases e : l.getD c.length 0 = 92
      · have : ¬ c.length + 1 < l.length := fun z => h0 ⟨e, z⟩
        rw [if_neg (fun z => z e), if_pos (nI_le (show l.length ≤ c.length + 1 by omega) (by omega))]
      · rw [if_pos e]
    unfold strC strP
    by_cases h1 : l.getD c.length 0 = 123
    · obtain ⟨I', f1, f2, f3⟩ := M_pushes (J := J) (x := 0) (y := 7) ok hP hk (show c.length + 1 ≤ 30 by omega) (by decide) s
      refine ⟨I', ⟨by rw [if_pos h1, if_pos h1]; exact f1, f2⟩, fun K => ?_⟩
      rw [hc]
      simp only [rX10_paintsString_45, rX10_paintsString_46, rX10_paintsString_48, rX10_paintsString_51, rX10_paintsString_52, rX10_paintsString_53, rX10_paintsString_55, o, true_and]
      rw [if_neg (fun z => z h1), show (0 : Int32) = nI 0 from rfl, f3]
      simp only [tl_none, rX10_paintsString_58, rX10_paintsString_100]
    · rw [if_neg h1, if_neg h1]
      obtain ⟨I1, f1, f2, f3⟩ := M_col (J := J) (n := 1) (x := 4) ok hP hk (show c.length + 1 ≤ 30 by omega) s
      have hop : opn (topP P) = if topP P = 1 then 34 else 39 := by
        rcases ht with e | e <;> rw [e] <;> rfl
      have hd : ∀ {K : Option Value → WS → HS → Prop}, WP mX10_paintsString 0 [.ref 270, .null, .null] [] w (I, Q, J) K ↔ WP mX10_paintsString 85 [.ref 270, .int (l.getD c.length 0), .null] [.int (if l.getD c.length 0 = opn (topP P) then 1 else 0)] w (I, Q, J) K := by
        intro K
        rw [hc]
        simp only [rX10_paintsString_45, rX10_paintsString_46, rX10_paintsString_48, rX10_paintsString_51, rX10_paintsString_52, rX10_paintsString_53, rX10_paintsString_55, rX10_paintsString_58, rX10_paintsString_61, rX10_paintsString_62, rX10_paintsString_63, o, true_and]
        rw [if_pos h1, M_top ok hP s.1]
        simp only [tl_some, List.cons_append, List.nil_append, rX10_paintsString_66, rX10_paintsString_67, rX10_paintsString_70, rX10_paintsString_72, rX10_paintsString_75, rX10_paintsString_77, rX10_paintsString_80, rX10_paintsString_81, rX10_paintsString_84]
        rw [hop]
        rcases ht with e | e
        · rw [e, if_neg (show ¬ ¬ nI 1 = 1 from fun z => z rfl), show (if (1 : Nat) = 1 then (34 : Int32) else 39) = 34 from rfl]
          by_cases e2 : l.getD c.length 0 = 34
          · rw [if_neg (fun z => z e2), if_pos e2]
          · rw [if_pos e2, if_neg e2]
        · rw [e, if_pos (show ¬ nI 2 = 1 by decide), show (if (2 : Nat) = 1 then (34 : Int32) else 39) = 39 from rfl]
          by_cases e2 : l.getD c.length 0 = 39
          · rw [if_neg (fun z => z e2), if_pos e2]
          · rw [if_pos e2, if_neg e2]
      by_cases h2 : l.getD c.length 0 = opn (topP P)
      · obtain ⟨I2, g1, g2, g3⟩ := M_off (J := J) ok hP f1
        refine ⟨I2, ⟨by rw [if_pos h2]; exact g1, f2.tr g2⟩, fun K => ?_⟩
        rw [hd, if_pos h2]
        simp only [rX10_paintsString_85, rX10_paintsString_86, rX10_paintsString_87, rX10_paintsString_88, rX10_paintsString_89, o, true_and]
        rw [show (1 : Int32) = nI 1 from rfl, f3]
        simp only [tl_none, rX10_paintsString_92, rX10_paintsString_93, rX10_paintsString_96, rX10_paintsString_97, o, true_and]
        rw [if_neg (by decide), g3]
        simp only [tl_none, rX10_paintsString_100]
      · refine ⟨I1, ⟨by rw [if_neg h2]; exact f1, f2⟩, fun K => ?_⟩
        rw [hd, if_neg h2]
        simp only [rX10_paintsString_85, rX10_paintsString_86, rX10_paintsString_87, rX10_paintsString_88, rX10_paintsString_89, o, true_and]
        rw [show (1 : Int32) = nI 1 from rfl, f3]
        simp only [tl_none, rX10_paintsString_92, rX10_paintsString_93, rX10_paintsString_100, if_true]
end M3
