/-! ===== the reference: a line ===== -/
/-- what painting line k writes -/
def FrL (k : Nat) (I I' : Nat → Nat → Int32) : Prop := (∀ c, c ≠ 270 → c ≠ 275 → c ≠ 276 → I' c = I c) ∧ (∀ f, (f < 12 ∨ 14 < f) → f ≠ 16 → I' 270 f = I 270 f) ∧ ∀ j, j < 30 * k → I' 275 j = I 275 j ∧ I' 276 j = I 276 j
theorem FrM.L {k : Nat} {I I' : Nat → Nat → Int32} (h : FrM k I I') : FrL k I I' := ⟨h.1, fun f q1 q2 => h.2.1 f (by omega) q2, h.2.2⟩
theorem FrL.tr {k : Nat} {I I1 I2 : Nat → Nat → Int32} (h1 : FrL k I I1) (h2 : FrL k I1 I2) : FrL k I I2 := ⟨fun c q1 q2 q3 => (h2.1 c q1 q2 q3).trans (h1.1 c q1 q2 q3), fun f q1 q2 => (h2.2.1 f q1 q2).trans (h1.2.1 f q1 q2), fun j q => ⟨((h2.2.2 j q).1).trans (h1.2.2 j q).1, ((h2.2.2 j q).2).trans (h1.2.2 j q).2⟩⟩
theorem FrL.fld {k f : Nat} {I : Nat → Nat → Int32} {x : Int32} (hf : (12 ≤ f ∧ f ≤ 14) ∨ f = 16) : FrL k I (u2 I 270 f x) := ⟨fun c q1 _ _ => Fr_u2 c q1, fun g q1 q2 => u2_ne (Or.inr (by omega)), fun j _ => ⟨u2_ne (Or.inl (by decide)), u2_ne (Or.inl (by decide))⟩⟩
section M5
variable {w : WS} {I : Nat → Nat → Int32} {Q : Nat → Nat → Option Nat} {J : Nat → Nat → Int64} {h : HS} {P : List Nat} {l : List Int32} {k t : Nat} {W : List (List Int32)} {c : List (Int32 × Int32)}
/-- entries go off down to so many -/
theorem M_down {i : Nat} {v1 : Int32} (ok : mOK w Q) (hi : 1 ≤ i) (hi6 : i ≤ 6) : ∀ d (P : List Nat) (I : Nat → Nat → Int32), P.length ≤ d + i → stV (P, 0) → pst I P → ∃ I', pst I' (P.take i) ∧ ((∀ c, c ≠ 270 → I' c = I c) ∧ ∀ f, f ≠ 12 → f ≠ 13 → I' 270 f = I 270 f) ∧ ∀ K, (WP mX10_paintsLine 126 [.ref 270, .int v1, .int (nI i)] [] w (I, Q, J) K ↔ K none w (I', Q, J)) := by
  intro d
  induction d with
  | zero =>
    intro P I hd hP p
    have h6 : P.length ≤ 6 := hP.2.1
    refine ⟨I, by rw [List.take_of_length_le (by omega)]; exact p, ⟨fun _ _ => rfl, fun _ _ _ => rfl⟩, fun K => ?_⟩
    rw [rX10_paintsLine_126]
    simp only [rX10_paintsLine_127, rX10_paintsLine_130, rX10_paintsLine_131, rX10_paintsLine_141, ok.1, p.2, true_and]
    rw [if_pos (nI_le (by omega) (by omega))]
  | succ d ih =>
    intro P I hd hP p
    have h6 : P.length ≤ 6 := hP.2.1
    by_cases q : P.length ≤ i
    · by_cases q2 : i < 2 ^ 31
      · refine ⟨I, by rw [List.take_of_length_le (by omega)]; exact p, ⟨fun _ _ => rfl, fun _ _ _ => rfl⟩, fun K => ?_⟩
        rw [rX10_paintsLine_126]
        simp only [rX10_paintsLine_127, rX10_paintsLine_130, rX10_paintsLine_131, rX10_paintsLine_141, ok.1, p.2, true_and]
        rw [if_pos (nI_le q q2)]
      · obtain ⟨I', f1, f2, f3⟩ := ih P I (by omega) hP p
        exact ⟨I', f1, f2, f3⟩
    · have hlt : i < P.length := by omega
      have p2 : pst (u2 (u2 I 270 13 (nI (P.length - 1))) 270 12 (nI (pilN P.dropLast))) P.dropLast := ⟨by rw [u2_same], by rw [u2_ne (Or.inr (by decide)), u2_same, List.length_dropLast]⟩
      obtain ⟨I', f1, f2, f3⟩ := ih P.dropLast _ (by rw [List.length_dropLast]; omega) (stV_drop hP (by omega)) p2
      refine ⟨I', ?_, ⟨fun c q1 => by rw [f2.1 c q1, Fr_u2 c q1, Fr_u2 c q1], fun f q1 q2 => by rw [f2.2 f q1 q2, u2_ne (Or.inr q1), u2_ne (Or.inr q2)]⟩, fun K => ?_⟩
      · rw [List.dropLast_eq_take, List.take_take, Nat.min_eq_left (by omega)] at f1; exact f1
      · rw [rX10_paintsLine_126]
        simp only [rX10_paintsLine_127, rX10_paintsLine_130, rX10_paintsLine_131, rX10_paintsLine_134, rX10_paintsLine_135, ok.1, p.2, true_and]
        rw [if_neg (nI_ge hlt (by omega)), M_goesOff ok hP.2.2.1 h6 (show 1 ≤ P.length by omega) p]
        simp only [tl_none, rX10_paintsLine_138]
        exact f3 K
theorem M_cut {v1 : Int32} (ok : mOK w Q) (hP : stV (P, 0)) (p : pst I P) : ∀ n i, 1 ≤ i → i ≤ 6 → P.length ≤ n + i → ∃ I', pst I' (cutF (n + 1) P i) ∧ ((∀ c, c ≠ 270 → I' c = I c) ∧ ∀ f, f ≠ 12 → f ≠ 13 → I' 270 f = I 270 f) ∧ ∀ K, (WP mX10_paintsLine 98 [.ref 270, .int v1, .int (nI i)] [] w (I, Q, J) K ↔ K none w (I', Q, J)) := by
  have h6 : P.length ≤ 6 := hP.2.1
  intro n
  induction n with
  | zero =>
    intro i h1 hi6 hn
    obtain ⟨I', f1, f2, f3⟩ := M_down (J := J) (v1 := v1) ok h1 hi6 P.length P I (by omega) hP p
    refine ⟨I', ?_, f2, fun K => ?_⟩
    · rw [cutF, if_neg (by omega)]
      rw [List.take_of_length_le (by omega)] at f1; exact f1
    · rw [rX10_paintsLine_98]
      simp only [rX10_paintsLine_99, rX10_paintsLine_100, rX10_paintsLine_103, ok.1, p.2, true_and]
      rw [if_pos (nI_le (by omega) (by omega))]
      exact f3 K
  | succ n ih =>
    intro i h1 hi6 hn
    by_cases hl : i < P.length
    · have hd : ∀ {K : Option Value → WS → HS → Prop}, WP mX10_paintsLine 98 [.ref 270, .int v1, .int (nI i)] [] w (I, Q, J) K ↔ if P.getD i 0 = 2 then WP mX10_paintsLine 126 [.ref 270, .int v1, .int (nI i)] [] w (I, Q, J) K else WP mX10_paintsLine 98 [.ref 270, .int v1, .int (nI (i + 1))] [] w (I, Q, J) K := by
        intro K
        rw [rX10_paintsLine_98]
        simp only [rX10_paintsLine_99, rX10_paintsLine_100, rX10_paintsLine_103, rX10_paintsLine_106, rX10_paintsLine_107, rX10_paintsLine_110, rX10_paintsLine_111, rX10_paintsLine_112, rX10_paintsLine_113, rX10_paintsLine_114, rX10_paintsLine_115, rX10_paintsLine_116, rX10_paintsLine_117, rX10_paintsLine_120, rX10_paintsLine_123, ok.1, p.1, p.2, true_and, nI_mul2 (show 2 * i < 2 ^ 31 by omega), pl_at hP.2.2.1 h6 (show i < 6 by omega), nI_1]
        rw [if_neg (nI_ge hl (by omega))]
        have h4 := hP.2.2.1 i hl
        dsimp only at h4
        by_cases q : P.getD i 0 = 2
        · rw [if_pos q, if_pos (show nI (P.getD i 0) = 2 by rw [q]; rfl)]
        · rw [if_neg q, if_neg (show ¬ nI (P.getD i 0) = 2 from fun z => q (nI_inj (b := 2) (by omega) (by decide) z))]
      by_cases q : P.getD i 0 = 2
      · obtain ⟨I', f1, f2, f3⟩ := M_down (J := J) (v1 := v1) ok h1 hi6 P.length P I (by omega) hP p
        refine ⟨I', by rw [cutF, if_pos hl, if_pos q]; exact f1, f2, fun K => ?_⟩
        rw [hd, if_pos q]; exact f3 K
      · obtain ⟨I', f1, f2, f3⟩ := ih (i + 1) (by omega) (by omega) (by omega)
        refine ⟨I', by rw [cutF, if_pos hl, if_neg q]; exact f1, f2, fun K => ?_⟩
        rw [hd, if_neg q]; exact f3 K
    · obtain ⟨I', f1, f2, f3⟩ := M_down (J := J) (v1 := v1) ok h1 hi6 P.length P I (by omega) hP p
      refine ⟨I', ?_, f2, fun K => ?_⟩
      · rw [cutF, if_neg hl]
        rw [List.take_of_length_le (by omega)] at f1; exact f1
      · rw [rX10_paintsLine_98]
        simp only [rX10_paintsLine_99, rX10_paintsLine_100, rX10_paintsLine_103, ok.1, p.2, true_and]
        rw [if_pos (nI_le (by omega) (by omega))]
        exact f3 K
theorem M_bytes (ok : mOK w Q) (hl : l.length ≤ 30) (hk : k < 10) (hW : wdV W) : ∀ n (c : List (Int32 × Int32)) (P : List Nat) (t : Nat) (I : Nat → Nat → Int32), lnM (I 271) k l → I 271 1 = nI W.length → (∀ x, x < W.length → wdM (I 271) x (W.getD x [])) → stV (P, 0) → t ≤ 26 → c.length ≤ l.length → l.length ≤ n + c.length → pmS I k c P → ∃ I', pmS I' k (paintL W l n c.length P t c).1 (paintL W l n c.length P t c).2.1 ∧ FrM k I I' ∧ ∀ K v2, (WP mX10_paintsLine 19 [.ref 270, .int (nI t), v2] [] w (I, Q, J) K ↔ WP mX10_paintsLine 91 [.ref 270, .int (nI (paintL W l n c.length P t c).2.2), v2] [] w (I', Q, J) K) := by
  obtain ⟨o, ⟨q0, -⟩, w1, -⟩ := id ok
  intro n
  induction n with
  | zero =>
    intro c P t I r hw1 hwd hP ht hc hn s
    refine ⟨I, s, FrM.rf, fun K v2 => ?_⟩
    rw [rX10_paintsLine_19]
    simp only [rX10_paintsLine_20, rX10_paintsLine_23, rX10_paintsLine_24, rX10_paintsLine_27, rX10_paintsLine_28, rX10_paintsLine_29, rX10_paintsLine_32, rX10_paintsLine_33, rX10_paintsLine_34, o, q0, w1, rf_some, s.2.1, s.2.2.1, true_and, ixL, vin_nI (show 3 + k < 373 by omega) (by decide), nI_clamp (show 3 + k < 2 ^ 31 by omega), r.1]
    rw [if_pos (nI_le (by omega) (by omega))]
    rfl
  | succ n ih =>
    intro c P t I r hw1 hwd hP ht hc hn s
    have hd : ∀ {K : Option Value → WS → HS → Prop} {v2 : Value}, WP mX10_paintsLine 19 [.ref 270, .int (nI t), v2] [] w (I, Q, J) K ↔ if l.length ≤ c.length then WP mX10_paintsLine 91 [.ref 270, .int (nI t), v2] [] w (I, Q, J) K else WP mX10_paintsLine 41 [.ref 270, .int (nI t), v2] [.int (nI (topP P))] w (I, Q, J) K := by
      intro K v2
      rw [rX10_paintsLine_19]
      simp only [rX10_paintsLine_20, rX10_paintsLine_23, rX10_paintsLine_24, rX10_paintsLine_27, rX10_paintsLine_28, rX10_paintsLine_29, rX10_paintsLine_32, rX10_paintsLine_33, rX10_paintsLine_34, o, q0, w1, rf_some, s.2.1, s.2.2.1, true_and, ixL, vin_nI (show 3 + k < 373 by omega) (by decide), nI_clamp (show 3 + k < 2 ^ 31 by omega), r.1]
      by_cases q : l.length ≤ c.length
      · rw [if_pos (nI_le q (by omega)), if_pos q]
      · rw [if_neg (nI_ge (show c.length < l.length by omega) (by omega)), if_neg q]
        simp only [rX10_paintsLine_37, rX10_paintsLine_38, o, true_and]
        rw [M_top ok hP s.1]
        simp only [tl_some]
    by_cases hi : c.length < l.length
    · have so := stepP_ok (W := W) (t := t) hi hP ht
      have hlen : (c ++ List.replicate ((stepP W l c.length P t).1 - c.length) ((stepP W l c.length P t).2.1, mdI (topP P))).length = (stepP W l c.length P t).1 := by simp; omega
      have step : ∃ I1, mDo I I1 k c P (stepP W l c.length P t) ∧ ∀ K v2, (WP mX10_paintsLine 19 [.ref 270, .int (nI t), v2] [] w (I, Q, J) K ↔ WP mX10_paintsLine 19 [.ref 270, .int (nI (stepP W l c.length P t).2.2.2), v2] [] w (I1, Q, J) K) := by
        have h4 := top_lt hP
        rcases (show topP P = 0 ∨ topP P = 3 ∨ (topP P = 1 ∨ topP P = 2) by omega) with e | e | e
        · obtain ⟨I1, g1, g2⟩ := M_code (J := J) ok hl hk r hW hw1 hwd hP e hi ht s
          refine ⟨I1, g1, fun K v2 => ?_⟩
          rw [hd, if_neg (by omega), e]
          simp only [show nI 0 = 0 from rfl, rX10_paintsLine_41_0, rX10_paintsLine_68, rX10_paintsLine_69, rX10_paintsLine_70, o, true_and]
          rw [g2]
          simp only [tl_some, rX10_paintsLine_73, rX10_paintsLine_74]
        · obtain ⟨I1, g1, g2⟩ := M_remark (J := J) (W := W) (t := t) ok hl hk r hP e hi s
          have ht2 : (stepP W l c.length P t).2.2.2 = t := by unfold stepP; rw [if_pos e]
          refine ⟨I1, g1, fun K v2 => ?_⟩
          rw [hd, if_neg (by omega), e, ht2]
          simp only [show nI 3 = 3 from rfl, rX10_paintsLine_41_3, rX10_paintsLine_77, rX10_paintsLine_78, o, true_and]
          rw [g2]
          simp only [tl_none, rX10_paintsLine_81]
        · obtain ⟨I1, g1, g2⟩ := M_string (J := J) (W := W) (t := t) ok hl hk r hP e hi s
          have ht2 : (stepP W l c.length P t).2.2.2 = t := by
            unfold stepP; rw [if_neg (by omega), if_pos e]; split <;> rfl
          refine ⟨I1, g1, fun K v2 => ?_⟩
          rw [hd, if_neg (by omega), ht2, rX10_paintsLine_41_d ⟨fun z => by have := nI_inj (b := 0) (by omega) (by decide) z; omega, fun z => by have := nI_inj (b := 3) (by omega) (by decide) z; omega⟩]
          simp only [rX10_paintsLine_84, rX10_paintsLine_85, o, true_and]
          rw [g2]
          simp only [tl_none, rX10_paintsLine_88]
      obtain ⟨I1, ⟨g1, g2⟩, g3⟩ := step
      obtain ⟨I2, f1, f2, f3⟩ := ih (c ++ List.replicate ((stepP W l c.length P t).1 - c.length) ((stepP W l c.length P t).2.1, mdI (topP P))) (stepP W l c.length P t).2.2.1 (stepP W l c.length P t).2.2.2 I1 (by rw [g2.now]; exact r) (by rw [g2.now]; exact hw1) (by rw [g2.now]; exact hwd) so.2.2.1 so.2.2.2 (by rw [hlen]; exact so.2.1) (by rw [hlen]; omega) g1
      rw [hlen] at f1 f3
      have epl : paintL W l (n + 1) c.length P t c = paintL W l n (stepP W l c.length P t).1 (stepP W l c.length P t).2.2.1 (stepP W l c.length P t).2.2.2 (c ++ List.replicate ((stepP W l c.length P t).1 - c.length) ((stepP W l c.length P t).2.1, mdI (topP P))) := by
        rw [paintL, if_pos hi]
      rw [epl]
      exact ⟨I2, f1, g2.tr f2, fun K v2 => (g3 K v2).trans (f3 K v2)⟩
    · have epl : paintL W l (n + 1) c.length P t c = (c, P, t) := by rw [paintL, if_neg hi]
      rw [epl]
      refine ⟨I, s, FrM.rf, fun K v2 => ?_⟩
      rw [hd, if_pos (by omega)]
theorem M_mark_loop {m : Nat} {b : Bool} (ok : mOK w Q) (hl : l.length ≤ 30) (hk : k < 10) : ∀ n i (I : Nat → Nat → Int32), n + i = l.length → lnM (I 271) k l → I 270 15 = nI k → I 270 14 = nI m → clIs I k (List.replicate i (if b then 7 else 4, 1)) → ∃ I', clIs I' k (List.replicate l.length (if b then 7 else 4, 1)) ∧ (∀ c, c ≠ 275 → c ≠ 276 → I' c = I c) ∧ (∀ j, j < 30 * k → I' 275 j = I 275 j ∧ I' 276 j = I 276 j) ∧ ∀ K, (WP mX10_paintsMarked 40 [.ref 270, .int (if b then 1 else 0), .int (nI i)] [] w (I, Q, J) K ↔ K none w (u2 I' 270 14 (nI (if b then 0 else m)), Q, J)) := by
  obtain ⟨o, ⟨q0, q1, q3, q4, q7, q8, q9, q10, q11⟩, w1, w2, w3, w4, w5, w6, -⟩ := id ok
  intro n
  induction n with
  | zero =>
    intro i I hn r hL hm cl
    have hi : i = l.length := by omega
    subst hi
    refine ⟨I, cl, fun _ _ _ => rfl, fun _ _ => ⟨rfl, rfl⟩, fun K => ?_⟩
    rw [rX10_paintsMarked_40]
    simp only [rX10_paintsMarked_41, rX10_paintsMarked_42, rX10_paintsMarked_45, rX10_paintsMarked_46, rX10_paintsMarked_47, rX10_paintsMarked_50, rX10_paintsMarked_51, rX10_paintsMarked_52, rX10_paintsMarked_100, rX10_paintsMarked_101, rX10_paintsMarked_102, rX10_paintsMarked_105, rX10_paintsMarked_106, rX10_paintsMarked_109, rX10_paintsMarked_110, rX10_paintsMarked_113, rX10_paintsMarked_116, o, q0, w1, rf_some, hL, hm, true_and, ixL, vin_nI (show 3 + k < 373 by omega) (by decide), nI_clamp (show 3 + k < 2 ^ 31 by omega), r.1]
    rw [if_pos (nI_le (Nat.le_refl _) (by omega))]
    cases b
    · simp
    · simp; rfl
  | succ n ih =>
    intro i I hn r hL hm cl
    have hi : i < l.length := by omega
    have e1 : ∀ z : Nat, z ≠ 275 → z ≠ 276 → u2 (u2 I 275 (30 * k + i) (if b then 7 else 4)) 276 (30 * k + i) 1 z = I z := fun z z1 z2 => by rw [Fr_u2 z z2, Fr_u2 z z1]
    have e2 : ∀ j, j ≠ 30 * k + i → u2 (u2 I 275 (30 * k + i) (if b then 7 else 4)) 276 (30 * k + i) 1 275 j = I 275 j ∧ u2 (u2 I 275 (30 * k + i) (if b then 7 else 4)) 276 (30 * k + i) 1 276 j = I 276 j := fun j hj => ⟨by rw [u2_ne (Or.inl (by decide)), u2_ne (Or.inr hj)], by rw [u2_ne (Or.inr hj), u2_ne (Or.inl (by decide))]⟩
    have hcl : clIs (u2 (u2 I 275 (30 * k + i) (if b then 7 else 4)) 276 (30 * k + i) 1) k (List.replicate (i + 1) (if b then 7 else 4, 1)) := by
      intro j hj
      have hj2 : j < i + 1 := by simpa using hj
      have ev : (List.replicate (i + 1) ((if b then (7 : Int32) else 4), (1 : Int32))).getD j (0, 0) = (if b then 7 else 4, 1) := by rw [List.getD_eq_getElem?_getD, List.getElem?_replicate]; simp [hj2]
      rw [ev]
      by_cases e : j = i
      · subst e
        exact ⟨by rw [u2_ne (Or.inl (by decide)), u2_same], by rw [u2_same]⟩
      · have := cl j (by simp; omega)
        rw [show (List.replicate i ((if b then (7 : Int32) else 4), (1 : Int32))).getD j (0, 0) = (if b then 7 else 4, 1) by rw [List.getD_eq_getElem?_getD, List.getElem?_replicate]; simp [show j < i by omega]] at this
        have h2 := e2 (30 * k + j) (by omega)
        exact ⟨h2.1.trans this.1, h2.2.trans this.2⟩
    obtain ⟨I', f1, f2, f3, f4⟩ := ih (i + 1) _ (by omega) (by rw [e1 271 (by decide) (by decide)]; exact r) (by rw [e1 270 (by decide) (by decide)]; exact hL) (by rw [e1 270 (by decide) (by decide)]; exact hm) hcl
    refine ⟨I', f1, fun c z1 z2 => (f2 c z1 z2).trans (e1 c z1 z2), fun j hj => ⟨(f3 j hj).1.trans (e2 j (by omega)).1, (f3 j hj).2.trans (e2 j (by omega)).2⟩, fun K => ?_⟩
    rw [← f4 K, rX10_paintsMarked_40]
    have hlx : ∀ y f, u2 I 275 (30 * k + i) y 270 f = I 270 f := fun y f => u2_ne (Or.inl (by decide))
    cases b
    · simp only [rX10_paintsMarked_41, rX10_paintsMarked_42, rX10_paintsMarked_45, rX10_paintsMarked_46, rX10_paintsMarked_47, rX10_paintsMarked_50, rX10_paintsMarked_51, rX10_paintsMarked_52, rX10_paintsMarked_55, rX10_paintsMarked_56, rX10_paintsMarked_59, rX10_paintsMarked_61, rX10_paintsMarked_62, rX10_paintsMarked_65, rX10_paintsMarked_66, rX10_paintsMarked_67, rX10_paintsMarked_68, rX10_paintsMarked_69, rX10_paintsMarked_72, rX10_paintsMarked_74, rX10_paintsMarked_77, rX10_paintsMarked_78, rX10_paintsMarked_79, rX10_paintsMarked_80, rX10_paintsMarked_83, rX10_paintsMarked_85, rX10_paintsMarked_86, rX10_paintsMarked_89, rX10_paintsMarked_90, rX10_paintsMarked_91, rX10_paintsMarked_92, rX10_paintsMarked_93, rX10_paintsMarked_94, rX10_paintsMarked_97, o, q0, q7, q8, w1, w5, w6, rf_some, hL, hm, hlx, true_and, ixL, ixC, vin_nI (show 3 + k < 373 by omega) (by decide), nI_clamp (show 3 + k < 2 ^ 31 by omega), vin_nI (show 30 * k + i < 300 by omega) (by decide), nI_clamp (show 30 * k + i < 2 ^ 31 by omega), ne_eq, show ¬ (275 : Nat) = 0 by decide, show ¬ (276 : Nat) = 0 by decide, not_false_eq_true, r.1, nI_1, Bool.false_eq_true, if_false, if_true]
      rw [if_neg (nI_ge hi (by omega))]
    · simp only [rX10_paintsMarked_41, rX10_paintsMarked_42, rX10_paintsMarked_45, rX10_paintsMarked_46, rX10_paintsMarked_47, rX10_paintsMarked_50, rX10_paintsMarked_51, rX10_paintsMarked_52, rX10_paintsMarked_55, rX10_paintsMarked_56, rX10_paintsMarked_59, rX10_paintsMarked_61, rX10_paintsMarked_62, rX10_paintsMarked_65, rX10_paintsMarked_66, rX10_paintsMarked_67, rX10_paintsMarked_68, rX10_paintsMarked_69, rX10_paintsMarked_72, rX10_paintsMarked_74, rX10_paintsMarked_77, rX10_paintsMarked_78, rX10_paintsMarked_79, rX10_paintsMarked_80, rX10_paintsMarked_83, rX10_paintsMarked_85, rX10_paintsMarked_86, rX10_paintsMarked_89, rX10_paintsMarked_90, rX10_paintsMarked_91, rX10_paintsMarked_92, rX10_paintsMarked_93, rX10_paintsMarked_94, rX10_paintsMarked_97, o, q0, q7, q8, w1, w5, w6, rf_some, hL, hm, hlx, true_and, ixL, ixC, vin_nI (show 3 + k < 373 by omega) (by decide), nI_clamp (show 3 + k < 2 ^ 31 by omega), vin_nI (show 30 * k + i < 300 by omega) (by decide), nI_clamp (show 30 * k + i < 2 ^ 31 by omega), ne_eq, show ¬ (275 : Nat) = 0 by decide, show ¬ (276 : Nat) = 0 by decide, not_false_eq_true, r.1, nI_1, show ¬ (1 : Int32) = 0 by decide, if_false, if_true]
      rw [if_neg (nI_ge hi (by omega))]
end M5
