section PN2
variable {w : WS} {I : Nat → Nat → Int32} {Q : Nat → Nat → Option Nat} {J : Nat → Nat → Int64} {K : Option Value → WS → HS → Prop} {b : Nat} {l : List Int32} {P : List Nat} {W : List (List Int32)} {t : Nat}
theorem c_figs_loop {x2 : Int32} {a s N : Nat} (ok : rowOK w Q a s N) (r : rowIs I a s l) (hN : l.length ≤ N) (h30 : l.length ≤ 30) : ∀ n i, n + i = l.length → (WP mX4_endOfFigures 4 [.ref 89, .ref a, .int x2, .int (nI i)] [] w (I, Q, J) K ↔ K (some (.int (nI (runE (fun c => decide (isF c)) l n i)))) w (I, Q, J)) := by
  intro n
  induction n with
  | zero =>
    intro i hi
    rw [rX4_endOfFigures_4]
    simp only [rX4_endOfFigures_0, rX4_endOfFigures_1, rX4_endOfFigures_2, rX4_endOfFigures_3, rX4_endOfFigures_5, rX4_endOfFigures_6, rX4_endOfFigures_9, rX4_endOfFigures_12, rX4_endOfFigures_13, rX4_endOfFigures_14, rX4_endOfFigures_17, rX4_endOfFigures_20, rX4_endOfFigures_23, rX4_endOfFigures_26, rX4_endOfFigures_29, rX4_endOfFigures_30, ok.1, r.1, true_and]
    rw [if_pos (nI_le (show l.length ≤ i by omega) (by omega))]
    rfl
  | succ n ih =>
    intro i hi
    rw [rX4_endOfFigures_4]
    simp only [rX4_endOfFigures_0, rX4_endOfFigures_1, rX4_endOfFigures_2, rX4_endOfFigures_3, rX4_endOfFigures_5, rX4_endOfFigures_6, rX4_endOfFigures_9, rX4_endOfFigures_12, rX4_endOfFigures_13, rX4_endOfFigures_14, rX4_endOfFigures_17, rX4_endOfFigures_20, rX4_endOfFigures_23, rX4_endOfFigures_26, rX4_endOfFigures_29, rX4_endOfFigures_30, ok.1, r.1, true_and]
    rw [if_neg (nI_ge (show i < l.length by omega) (by omega)), c_signAt ok r hN (by omega), if_pos (by omega)]
    simp only [tl_some, rX4_endOfFigures_0, rX4_endOfFigures_1, rX4_endOfFigures_2, rX4_endOfFigures_3, rX4_endOfFigures_5, rX4_endOfFigures_6, rX4_endOfFigures_9, rX4_endOfFigures_12, rX4_endOfFigures_13, rX4_endOfFigures_14, rX4_endOfFigures_17, rX4_endOfFigures_20, rX4_endOfFigures_23, rX4_endOfFigures_26, rX4_endOfFigures_29, rX4_endOfFigures_30, c_isFigure, nI_1]
    by_cases e : isF (l.getD i 0)
    · rw [if_pos e, if_neg (by decide), ih (i + 1) (by omega), runE, if_pos (by simpa using e)]
    · rw [if_neg e, if_pos rfl, runE, if_neg (by simpa using e)]
theorem c_figs {i a s N : Nat} (ok : rowOK w Q a s N) (r : rowIs I a s l) (hN : l.length ≤ N) (h30 : l.length ≤ 30) (hi : i < l.length) : WP mX4_endOfFigures 0 [.ref 89, .ref a, .int (nI i), .null] [] w (I, Q, J) K ↔ K (some (.int (nI (runE (fun c => decide (isF c)) l (l.length - (i + 1)) (i + 1))))) w (I, Q, J) := by
  simp only [rX4_endOfFigures_0, rX4_endOfFigures_1, rX4_endOfFigures_2, rX4_endOfFigures_3, rX4_endOfFigures_5, rX4_endOfFigures_6, rX4_endOfFigures_9, rX4_endOfFigures_12, rX4_endOfFigures_13, rX4_endOfFigures_14, rX4_endOfFigures_17, rX4_endOfFigures_20, rX4_endOfFigures_23, rX4_endOfFigures_26, rX4_endOfFigures_29, rX4_endOfFigures_30, nI_1]
  exact c_figs_loop ok r hN h30 (l.length - (i + 1)) (i + 1) (by omega)
theorem c_name_loop {v4 : Value} {f : Nat} (ok : lnOK w Q b) (r : rowIs I (b + 1) (b + 2) l) (h30 : l.length ≤ 30) : ∀ n i, n + i = l.length → (WP mX4_paintName 5 [.ref 89, .ref b, .int (nI f), .ref 76, .int (nI i), v4] [] w (I, Q, J) K ↔ WP mX4_paintName 38 [.ref 89, .ref b, .int (nI f), .ref 76, .int (nI (runE (fun c => decide (isL c)) l n i)), v4] [] w (I, Q, J) K) := by
  obtain ⟨o1, o2, o3, o4, o5, o6, o7, o8, o9⟩ := id ok
  intro n
  induction n with
  | zero =>
    intro i hi
    rw [rX4_paintName_5]
    simp only [rX4_paintName_7, rX4_paintName_8, rX4_paintName_11, rX4_paintName_14, o1, o2, rf_some, o6.1, r.1, true_and]
    rw [if_pos (nI_le (show l.length ≤ i by omega) (by omega))]
    rfl
  | succ n ih =>
    intro i hi
    rw [rX4_paintName_5]
    simp only [rX4_paintName_7, rX4_paintName_8, rX4_paintName_11, rX4_paintName_14, rX4_paintName_17, rX4_paintName_18, rX4_paintName_21, rX4_paintName_23, rX4_paintName_26, rX4_paintName_29, rX4_paintName_32, rX4_paintName_35, o1, o2, rf_some, o6.1, r.1, true_and]
    rw [if_neg (nI_ge (show i < l.length by omega) (by omega)), c_signAt o6 r h30 (by omega), if_pos (by omega)]
    simp only [tl_some, rX4_paintName_7, rX4_paintName_8, rX4_paintName_11, rX4_paintName_14, rX4_paintName_17, rX4_paintName_18, rX4_paintName_21, rX4_paintName_23, rX4_paintName_26, rX4_paintName_29, rX4_paintName_32, rX4_paintName_35, c_isLetter, nI_1]
    by_cases e : isL (l.getD i 0)
    · rw [if_pos e, if_neg (by decide), ih (i + 1) (by omega), runE, if_pos (by simpa using e)]
    · rw [if_neg e, if_pos rfl, runE, if_neg (by simpa using e)]
theorem c_name {i : Nat} {c : List (Int32 × Int32)} (pok : pnOK w Q) (ok : lnOK w Q b) (r : rowIs I (b + 1) (b + 2) l) (h30 : l.length ≤ 30) (hi : i < l.length) (hW : wdV W) (rw0 : wdIs I 76 78 W) (hc : c.length = i) (pt : ptIs I b c) : ∃ I', Fr (fun c => c = b + 3 ∨ c = b + 4) I I' ∧ ptIs I' b (c ++ List.replicate (runE (fun c => decide (isL c)) l (l.length - (i + 1)) (i + 1) - i) ((if hasW W ((l.drop i).take (runE (fun c => decide (isL c)) l (l.length - (i + 1)) (i + 1) - i)) W.length 0 then 2 else 1), 0)) ∧ ∀ K, (WP mX4_paintName 0 [.ref 89, .ref b, .int (nI i), .ref 76, .null, .null] [] w (I, Q, J) K ↔ K (some (.int (nI (runE (fun c => decide (isL c)) l (l.length - (i + 1)) (i + 1))))) w (I', Q, J)) := by
  obtain ⟨o1, o2, o3, o4, o5, o6, o7, o8, o9⟩ := id ok
  have hr := runE_le (fun c => decide (isL c)) l (l.length - (i + 1)) (i + 1)
  generalize hE : runE (fun c => decide (isL c)) l (l.length - (i + 1)) (i + 1) = E at hr ⊢
  obtain ⟨I', g1, g2, g3⟩ := c_fillPt (J := J) (x := if hasW W ((l.drop i).take (E - i)) W.length 0 then 2 else 1) (y := 0) ok r h30 (show E ≤ l.length by omega) (show i ≤ E by omega) hc pt
  refine ⟨I', g1, g2, fun K => ?_⟩
  simp only [rX4_paintName_0, rX4_paintName_1, rX4_paintName_2, rX4_paintName_3, nI_1]
  rw [c_name_loop ok r h30 (l.length - (i + 1)) (i + 1) (by omega), hE]
  simp only [rX4_paintName_0, rX4_paintName_1, rX4_paintName_2, rX4_paintName_3, rX4_paintName_7, rX4_paintName_8, rX4_paintName_11, rX4_paintName_14, rX4_paintName_17, rX4_paintName_18, rX4_paintName_21, rX4_paintName_23, rX4_paintName_26, rX4_paintName_29, rX4_paintName_32, rX4_paintName_35, rX4_paintName_38, rX4_paintName_39, rX4_paintName_40, rX4_paintName_43, rX4_paintName_44, rX4_paintName_46, rX4_paintName_49, rX4_paintName_51, rX4_paintName_52, rX4_paintName_53, rX4_paintName_55, rX4_paintName_57, rX4_paintName_60, rX4_paintName_61, rX4_paintName_64, rX4_paintName_65, rX4_paintName_66, rX4_paintName_69, rf_some, o1, o2, pok.2.2.2.1, true_and]
  rw [c_has pok.2.2.2 rw0 hW o6 r h30 (show i ≤ E by omega) (show E ≤ l.length by omega)]
  simp only [tl_some, rX4_paintName_0, rX4_paintName_1, rX4_paintName_2, rX4_paintName_3, rX4_paintName_7, rX4_paintName_8, rX4_paintName_11, rX4_paintName_14, rX4_paintName_17, rX4_paintName_18, rX4_paintName_21, rX4_paintName_23, rX4_paintName_26, rX4_paintName_29, rX4_paintName_32, rX4_paintName_35, rX4_paintName_38, rX4_paintName_39, rX4_paintName_40, rX4_paintName_43, rX4_paintName_44, rX4_paintName_46, rX4_paintName_49, rX4_paintName_51, rX4_paintName_52, rX4_paintName_53, rX4_paintName_55, rX4_paintName_57, rX4_paintName_60, rX4_paintName_61, rX4_paintName_64, rX4_paintName_65, rX4_paintName_66, rX4_paintName_69, o1, true_and]
  by_cases e : hasW W ((l.drop i).take (E - i)) W.length 0 = true
  · rw [e] at g3 ⊢
    simp only [if_true] at g3 ⊢
    rw [if_neg (by decide), g3]
    simp only [tl_some, rX4_paintName_0, rX4_paintName_1, rX4_paintName_2, rX4_paintName_3, rX4_paintName_7, rX4_paintName_8, rX4_paintName_11, rX4_paintName_14, rX4_paintName_17, rX4_paintName_18, rX4_paintName_21, rX4_paintName_23, rX4_paintName_26, rX4_paintName_29, rX4_paintName_32, rX4_paintName_35, rX4_paintName_38, rX4_paintName_39, rX4_paintName_40, rX4_paintName_43, rX4_paintName_44, rX4_paintName_46, rX4_paintName_49, rX4_paintName_51, rX4_paintName_52, rX4_paintName_53, rX4_paintName_55, rX4_paintName_57, rX4_paintName_60, rX4_paintName_61, rX4_paintName_64, rX4_paintName_65, rX4_paintName_66, rX4_paintName_69]
  · rw [Bool.not_eq_true] at e
    rw [e] at g3 ⊢
    simp only [if_false, Bool.false_eq_true, if_true] at g3 ⊢
    rw [g3]
    simp only [tl_some, rX4_paintName_0, rX4_paintName_1, rX4_paintName_2, rX4_paintName_3, rX4_paintName_7, rX4_paintName_8, rX4_paintName_11, rX4_paintName_14, rX4_paintName_17, rX4_paintName_18, rX4_paintName_21, rX4_paintName_23, rX4_paintName_26, rX4_paintName_29, rX4_paintName_32, rX4_paintName_35, rX4_paintName_38, rX4_paintName_39, rX4_paintName_40, rX4_paintName_43, rX4_paintName_44, rX4_paintName_46, rX4_paintName_49, rX4_paintName_51, rX4_paintName_52, rX4_paintName_53, rX4_paintName_55, rX4_paintName_57, rX4_paintName_60, rX4_paintName_61, rX4_paintName_64, rX4_paintName_65, rX4_paintName_66, rX4_paintName_69]
theorem c_beginsMark {i : Nat} (pok : pnOK w Q) {a s N : Nat} (ok : rowOK w Q a s N) (r : rowIs I a s l) (hN : l.length ≤ N) (h30 : l.length ≤ 30) (hi : i < l.length) (st : stIs I 90 91 (P, 0)) (hP : stV (P, 0)) (hm : I 89 1 = mkI t) (ht : t ≤ 26) : WP mX4_beginsMark 0 [.ref 89, .ref a, .int (nI i)] [] w (I, Q, J) K ↔ K (some (.int (if (l.getD i 0 = 60 ∧ i + 1 < l.length ∧ isC (l.getD (i + 1) 0)) ∧ P.length = 1 ∧ t = 0 then 1 else 0))) w (I, Q, J) := by
  have h6 : P.length ≤ 6 := hP.2.1
  simp only [rX4_beginsMark_0, rX4_beginsMark_1, rX4_beginsMark_2, rX4_beginsMark_5, rX4_beginsMark_7, rX4_beginsMark_10, rX4_beginsMark_11, rX4_beginsMark_12, rX4_beginsMark_13, rX4_beginsMark_14, rX4_beginsMark_17, rX4_beginsMark_20, rX4_beginsMark_23, rX4_beginsMark_24, rX4_beginsMark_27, rX4_beginsMark_30, rX4_beginsMark_31, rX4_beginsMark_34, rX4_beginsMark_35, rX4_beginsMark_38, rX4_beginsMark_39, rX4_beginsMark_42, rX4_beginsMark_43, rX4_beginsMark_46, rX4_beginsMark_47, ok.1, true_and]
  rw [c_signAt ok r hN (by omega), if_pos hi]
  simp only [tl_some, rX4_beginsMark_0, rX4_beginsMark_1, rX4_beginsMark_2, rX4_beginsMark_5, rX4_beginsMark_7, rX4_beginsMark_10, rX4_beginsMark_11, rX4_beginsMark_12, rX4_beginsMark_13, rX4_beginsMark_14, rX4_beginsMark_17, rX4_beginsMark_20, rX4_beginsMark_23, rX4_beginsMark_24, rX4_beginsMark_27, rX4_beginsMark_30, rX4_beginsMark_31, rX4_beginsMark_34, rX4_beginsMark_35, rX4_beginsMark_38, rX4_beginsMark_39, rX4_beginsMark_42, rX4_beginsMark_43, rX4_beginsMark_46, rX4_beginsMark_47, ok.1, true_and, nI_1]
  by_cases e1 : l.getD i 0 = 60
  · rw [if_neg (fun z => z e1), c_signAt ok r hN (by omega)]
    simp only [tl_some, rX4_beginsMark_0, rX4_beginsMark_1, rX4_beginsMark_2, rX4_beginsMark_5, rX4_beginsMark_7, rX4_beginsMark_10, rX4_beginsMark_11, rX4_beginsMark_12, rX4_beginsMark_13, rX4_beginsMark_14, rX4_beginsMark_17, rX4_beginsMark_20, rX4_beginsMark_23, rX4_beginsMark_24, rX4_beginsMark_27, rX4_beginsMark_30, rX4_beginsMark_31, rX4_beginsMark_34, rX4_beginsMark_35, rX4_beginsMark_38, rX4_beginsMark_39, rX4_beginsMark_42, rX4_beginsMark_43, rX4_beginsMark_46, rX4_beginsMark_47, c_isCapital, pok.1, pok.2.1, pok.2.2.1.1, rf_some, true_and, st.1, hm]
    by_cases e2 : i + 1 < l.length
    · rw [if_pos e2]
      by_cases e3 : isC (l.getD (i + 1) 0)
      · rw [if_pos e3, if_neg (by decide)]
        by_cases e4 : P.length = 1
        · rw [if_neg (show ¬ ¬ nI (P, 0).1.length = 1 from fun z => z (by show nI P.length = 1; rw [e4]; rfl))]
          by_cases e5 : t = 0
          · rw [if_neg (show ¬ ¬ mkI t = -1 from fun z => z (by rw [e5]; rfl)), if_pos ⟨⟨e1, e2, e3⟩, e4, e5⟩]
            simp
          · rw [if_pos (show ¬ mkI t = -1 from fun z => e5 (mkI_inj ht (by decide) (z.trans rfl))), if_neg (fun z => e5 z.2.2)]
            simp
        · rw [if_pos (show ¬ nI (P, 0).1.length = 1 from fun z => e4 (nI_inj (by omega) (by decide) z)), if_neg (fun z => e4 z.2.1)]
          simp
      · rw [if_neg e3, if_pos rfl, if_neg (fun z => e3 z.1.2.2)]
        simp
    · rw [if_neg e2, if_neg (show ¬ isC (-1) by decide), if_pos rfl, if_neg (fun z => e2 z.1.2.1)]
      simp
  · rw [if_pos e1, if_neg (fun z => e1 z.1.1)]
    simp
/-- what a step does to the cells -/
def stepIs (I I' : Nat → Nat → Int32) (b : Nat) (W : List (List Int32)) (l : List Int32) (i : Nat) (P : List Nat) (t : Nat) (c : List (Int32 × Int32)) : Prop :=
  ptIs I' b (c ++ List.replicate ((stepP W l i P t).1 - i) ((stepP W l i P t).2.1, mdI (topP P))) ∧ stIs I' 90 91 ((stepP W l i P t).2.2.1, 0) ∧ I' 89 1 = mkI (stepP W l i P t).2.2.2 ∧ Fr (fun c => c = 89 ∨ c = 90 ∨ c = 91 ∨ c = b + 3 ∨ c = b + 4) I I'
set_option maxHeartbeats 4000000 in
theorem c_paintFrom {i : Nat} {c : List (Int32 × Int32)} (pok : pnOK w Q) (ok : lnOK w Q b) (hb : b + 6 < 89) (r : rowIs I (b + 1) (b + 2) l) (h30 : l.length ≤ 30) (hi : i < l.length) (hW : wdV W) (rw0 : wdIs I 76 78 W) (hb76 : b + 6 < 76) (hc : c.length = i) (pt : ptIs I b c) (st : stIs I 90 91 (P, 0)) (hP : stV (P, 0)) (hm : I 89 1 = mkI t) (ht : t ≤ 26) : ∃ I', stepIs I I' b W l i P t c ∧ ∀ K, (WP mX4_paintFrom 0 [.ref 89, .ref b, .int (nI i), .ref 76, .null, .null, .null] [] w (I, Q, J) K ↔ K (some (.int (nI (stepP W l i P t).1))) w (I', Q, J)) := by
  obtain ⟨o1, o2, o3, o4, o5, o6, o7, o8, o9⟩ := id ok
  have htop := top_lt hP
  have hso := stepP_ok (W := W) (t := t) hi hP ht
  -- a byte taken by a rule of the highest mode, then filled
  have fillIt : ∀ (I1 : Nat → Nat → Int32) (i' : Nat) (x y : Int32) (P' : List Nat) (t' : Nat), Fr (fun c => c = 89 ∨ c = 90 ∨ c = 91) I I1 → stIs I1 90 91 (P', 0) → I1 89 1 = mkI t' → i ≤ i' → i' ≤ l.length → ∃ I', (ptIs I' b (c ++ List.replicate (i' - i) (x, y)) ∧ stIs I' 90 91 (P', 0) ∧ I' 89 1 = mkI t' ∧ Fr (fun c => c = 89 ∨ c = 90 ∨ c = 91 ∨ c = b + 3 ∨ c = b + 4) I I') ∧ ∀ K, (WP mX2_fill 0 [.ref b, .int (nI i), .int (nI i'), .int x, .int y, .null] [] w (I1, Q, J) K ↔ K (some (.int (nI i'))) w (I', Q, J)) := by
    intro I1 i' x y P' t' hF1 hst hmk h1 h2
    have e : ∀ z, z ≠ 89 → z ≠ 90 → z ≠ 91 → I1 z = I z := fun z q1 q2 q3 => hF1 z (by omega)
    obtain ⟨I', g1, g2, g3⟩ := c_fillPt (J := J) (I := I1) (x := x) (y := y) ok (r.fr (e _ (by omega) (by omega) (by omega)) (e _ (by omega) (by omega) (by omega))) h30 h2 h1 hc (pt.fr (e _ (by omega) (by omega) (by omega)) (e _ (by omega) (by omega) (by omega)))
    refine ⟨I', ⟨g2, hst.fr (g1 90 (by omega)) (g1 91 (by omega)), by rw [g1 89 (by omega)]; exact hmk, Fr.tr hF1 g1 (fun c z => by omega) (fun c z => by omega)⟩, g3⟩
  have sg : ∀ {K : Option Value → WS → HS → Prop}, WP mX5_signAt 0 [.ref (b + 1), .int (nI i)] [] w (I, Q, J) K ↔ K (some (.int (l.getD i 0))) w (I, Q, J) := by
    intro K
    rw [c_signAt o6 r h30 (by omega), if_pos hi]
  have md : ∀ {K : Option Value → WS → HS → Prop}, WP mX7_mode 0 [.ref 90, .null] [] w (I, Q, J) K ↔ K (some (.int (mdI (topP P)))) w (I, Q, J) := by
    intro K
    rw [c_mode pok.2.2.1 st hP]
  unfold stepIs
  by_cases h3 : topP P = 3
  · -- a remark
    obtain ⟨I1, g1, g2, g3⟩ := c_takeR (J := J) (c := l.getD i 0) pok st hP h3
    have em : I1 89 1 = mkI t := by rw [g2 89 (by omega)]; exact hm
    obtain ⟨I', f1, f2⟩ := fillIt I1 (i + 1) (remC P (l.getD i 0)) 2 (remP P (l.getD i 0)) t (g2.wk (fun c z => Or.inr z)) g1 em (by omega) (by omega)
    refine ⟨I', ?_, fun K => ?_⟩
    · simp only [stepP, if_pos h3]
      rw [h3]; exact f1
    · simp only [stepP, if_pos h3]
      rw [h3] at md
      simp only [show mdI 3 = 2 from rfl, rX4_paintFrom_0, rX4_paintFrom_1, rX4_paintFrom_4, rX4_paintFrom_5, rX4_paintFrom_8, rX4_paintFrom_10, rX4_paintFrom_11, rX4_paintFrom_14, rX4_paintFrom_17, rX4_paintFrom_19, rX4_paintFrom_21, rX4_paintFrom_22, rX4_paintFrom_25, rX4_paintFrom_26, rX4_paintFrom_27, rX4_paintFrom_28, rX4_paintFrom_29, rX4_paintFrom_30, rX4_paintFrom_31, rX4_paintFrom_33, rX4_paintFrom_36, rX4_paintFrom_37, rX4_paintFrom_40, rX4_paintFrom_41, rX4_paintFrom_43, rX4_paintFrom_44, rX4_paintFrom_47, rX4_paintFrom_49, rX4_paintFrom_51, rX4_paintFrom_54, rX4_paintFrom_55, rX4_paintFrom_56, rX4_paintFrom_57, rX4_paintFrom_58, rX4_paintFrom_61, rX4_paintFrom_64, rX4_paintFrom_67, rX4_paintFrom_68, rX4_paintFrom_71, rX4_paintFrom_72, rX4_paintFrom_74, rX4_paintFrom_76, rX4_paintFrom_79, rX4_paintFrom_80, rX4_paintFrom_81, rX4_paintFrom_82, rX4_paintFrom_83, rX4_paintFrom_84, rX4_paintFrom_86, rX4_paintFrom_87, rX4_paintFrom_90, rX4_paintFrom_93, rX4_paintFrom_94, rX4_paintFrom_95, rX4_paintFrom_96, rX4_paintFrom_97, rX4_paintFrom_98, rX4_paintFrom_99, rX4_paintFrom_101, rX4_paintFrom_104, rX4_paintFrom_105, rX4_paintFrom_108, rX4_paintFrom_109, rX4_paintFrom_111, rX4_paintFrom_114, rX4_paintFrom_117, rX4_paintFrom_118, rX4_paintFrom_119, rX4_paintFrom_120, rX4_paintFrom_121, rX4_paintFrom_124, rX4_paintFrom_125, rX4_paintFrom_127, rX4_paintFrom_130, rX4_paintFrom_133, rX4_paintFrom_134, rX4_paintFrom_135, rX4_paintFrom_136, rX4_paintFrom_137, rX4_paintFrom_140, rX4_paintFrom_141, rX4_paintFrom_144, rX4_paintFrom_145, rX4_paintFrom_146, rX4_paintFrom_149, rX4_paintFrom_150, rX4_paintFrom_152, rX4_paintFrom_154, rX4_paintFrom_157, rX4_paintFrom_158, rX4_paintFrom_159, rX4_paintFrom_160, rX4_paintFrom_163, rX4_paintFrom_166, rX4_paintFrom_167, rX4_paintFrom_168, rX4_paintFrom_171, rX4_paintFrom_172, rX4_paintFrom_173, rX4_paintFrom_174, rX4_paintFrom_177, rX4_paintFrom_178, rX4_paintFrom_181, rX4_paintFrom_184, rX4_paintFrom_185, rX4_paintFrom_186, rX4_paintFrom_189, rX4_paintFrom_190, rX4_paintFrom_191, rX4_paintFrom_192, rX4_paintFrom_195, rX4_paintFrom_198, rX4_paintFrom_199, rX4_paintFrom_200, rX4_paintFrom_201, rX4_paintFrom_202, rX4_paintFrom_203, rX4_paintFrom_205, rX4_paintFrom_206, rX4_paintFrom_209, rX4_paintFrom_210, rX4_paintFrom_211, rX4_paintFrom_212, rX4_paintFrom_213, rX4_paintFrom_214, rX4_paintFrom_215, rX4_paintFrom_216, rX4_paintFrom_218, rX4_paintFrom_221, rX4_paintFrom_222, rX4_paintFrom_225, o1, o2, rf_some, o6.1, true_and, sg, md, tl_some, pok.1, pok.2.1, pok.2.2.1.1, nI_1]
      rw [if_neg (by decide), g3]
      simp only [tl_some, rX4_paintFrom_0, rX4_paintFrom_1, rX4_paintFrom_4, rX4_paintFrom_5, rX4_paintFrom_8, rX4_paintFrom_10, rX4_paintFrom_11, rX4_paintFrom_14, rX4_paintFrom_17, rX4_paintFrom_19, rX4_paintFrom_21, rX4_paintFrom_22, rX4_paintFrom_25, rX4_paintFrom_26, rX4_paintFrom_27, rX4_paintFrom_28, rX4_paintFrom_29, rX4_paintFrom_30, rX4_paintFrom_31, rX4_paintFrom_33, rX4_paintFrom_36, rX4_paintFrom_37, rX4_paintFrom_40, rX4_paintFrom_41, rX4_paintFrom_43, rX4_paintFrom_44, rX4_paintFrom_47, rX4_paintFrom_49, rX4_paintFrom_51, rX4_paintFrom_54, rX4_paintFrom_55, rX4_paintFrom_56, rX4_paintFrom_57, rX4_paintFrom_58, rX4_paintFrom_61, rX4_paintFrom_64, rX4_paintFrom_67, rX4_paintFrom_68, rX4_paintFrom_71, rX4_paintFrom_72, rX4_paintFrom_74, rX4_paintFrom_76, rX4_paintFrom_79, rX4_paintFrom_80, rX4_paintFrom_81, rX4_paintFrom_82, rX4_paintFrom_83, rX4_paintFrom_84, rX4_paintFrom_86, rX4_paintFrom_87, rX4_paintFrom_90, rX4_paintFrom_93, rX4_paintFrom_94, rX4_paintFrom_95, rX4_paintFrom_96, rX4_paintFrom_97, rX4_paintFrom_98, rX4_paintFrom_99, rX4_paintFrom_101, rX4_paintFrom_104, rX4_paintFrom_105, rX4_paintFrom_108, rX4_paintFrom_109, rX4_paintFrom_111, rX4_paintFrom_114, rX4_paintFrom_117, rX4_paintFrom_118, rX4_paintFrom_119, rX4_paintFrom_120, rX4_paintFrom_121, rX4_paintFrom_124, rX4_paintFrom_125, rX4_paintFrom_127, rX4_paintFrom_130, rX4_paintFrom_133, rX4_paintFrom_134, rX4_paintFrom_135, rX4_paintFrom_136, rX4_paintFrom_137, rX4_paintFrom_140, rX4_paintFrom_141, rX4_paintFrom_144, rX4_paintFrom_145, rX4_paintFrom_146, rX4_paintFrom_149, rX4_paintFrom_150, rX4_paintFrom_152, rX4_paintFrom_154, rX4_paintFrom_157, rX4_paintFrom_158, rX4_paintFrom_159, rX4_paintFrom_160, rX4_paintFrom_163, rX4_paintFrom_166, rX4_paintFrom_167, rX4_paintFrom_168, rX4_paintFrom_171, rX4_paintFrom_172, rX4_paintFrom_173, rX4_paintFrom_174, rX4_paintFrom_177, rX4_paintFrom_178, rX4_paintFrom_181, rX4_paintFrom_184, rX4_paintFrom_185, rX4_paintFrom_186, rX4_paintFrom_189, rX4_paintFrom_190, rX4_paintFrom_191, rX4_paintFrom_192, rX4_paintFrom_195, rX4_paintFrom_198, rX4_paintFrom_199, rX4_paintFrom_200, rX4_paintFrom_201, rX4_paintFrom_202, rX4_paintFrom_203, rX4_paintFrom_205, rX4_paintFrom_206, rX4_paintFrom_209, rX4_paintFrom_210, rX4_paintFrom_211, rX4_paintFrom_212, rX4_paintFrom_213, rX4_paintFrom_214, rX4_paintFrom_215, rX4_paintFrom_216, rX4_paintFrom_218, rX4_paintFrom_221, rX4_paintFrom_222, rX4_paintFrom_225, o1, true_and]
      rw [f2]
      simp only [tl_some, rX4_paintFrom_0, rX4_paintFrom_1, rX4_paintFrom_4, rX4_paintFrom_5, rX4_paintFrom_8, rX4_paintFrom_10, rX4_paintFrom_11, rX4_paintFrom_14, rX4_paintFrom_17, rX4_paintFrom_19, rX4_paintFrom_21, rX4_paintFrom_22, rX4_paintFrom_25, rX4_paintFrom_26, rX4_paintFrom_27, rX4_paintFrom_28, rX4_paintFrom_29, rX4_paintFrom_30, rX4_paintFrom_31, rX4_paintFrom_33, rX4_paintFrom_36, rX4_paintFrom_37, rX4_paintFrom_40, rX4_paintFrom_41, rX4_paintFrom_43, rX4_paintFrom_44, rX4_paintFrom_47, rX4_paintFrom_49, rX4_paintFrom_51, rX4_paintFrom_54, rX4_paintFrom_55, rX4_paintFrom_56, rX4_paintFrom_57, rX4_paintFrom_58, rX4_paintFrom_61, rX4_paintFrom_64, rX4_paintFrom_67, rX4_paintFrom_68, rX4_paintFrom_71, rX4_paintFrom_72, rX4_paintFrom_74, rX4_paintFrom_76, rX4_paintFrom_79, rX4_paintFrom_80, rX4_paintFrom_81, rX4_paintFrom_82, rX4_paintFrom_83, rX4_paintFrom_84, rX4_paintFrom_86, rX4_paintFrom_87, rX4_paintFrom_90, rX4_paintFrom_93, rX4_paintFrom_94, rX4_paintFrom_95, rX4_paintFrom_96, rX4_paintFrom_97, rX4_paintFrom_98, rX4_paintFrom_99, rX4_paintFrom_101, rX4_paintFrom_104, rX4_paintFrom_105, rX4_paintFrom_108, rX4_paintFrom_109, rX4_paintFrom_111, rX4_paintFrom_114, rX4_paintFrom_117, rX4_paintFrom_118, rX4_paintFrom_119, rX4_paintFrom_120, rX4_paintFrom_121, rX4_paintFrom_124, rX4_paintFrom_125, rX4_paintFrom_127, rX4_paintFrom_130, rX4_paintFrom_133, rX4_paintFrom_134, rX4_paintFrom_135, rX4_paintFrom_136, rX4_paintFrom_137, rX4_paintFrom_140, rX4_paintFrom_141, rX4_paintFrom_144, rX4_paintFrom_145, rX4_paintFrom_146, rX4_paintFrom_149, rX4_paintFrom_150, rX4_paintFrom_152, rX4_paintFrom_154, rX4_paintFrom_157, rX4_paintFrom_158, rX4_paintFrom_159, rX4_paintFrom_160, rX4_paintFrom_163, rX4_paintFrom_166, rX4_paintFrom_167, rX4_paintFrom_168, rX4_paintFrom_171, rX4_paintFrom_172, rX4_paintFrom_173, rX4_paintFrom_174, rX4_paintFrom_177, rX4_paintFrom_178, rX4_paintFrom_181, rX4_paintFrom_184, rX4_paintFrom_185, rX4_paintFrom_186, rX4_paintFrom_189, rX4_paintFrom_190, rX4_paintFrom_191, rX4_paintFrom_192, rX4_paintFrom_195, rX4_paintFrom_198, rX4_paintFrom_199, rX4_paintFrom_200, rX4_paintFrom_201, rX4_paintFrom_202, rX4_paintFrom_203, rX4_paintFrom_205, rX4_paintFrom_206, rX4_paintFrom_209, rX4_paintFrom_210, rX4_paintFrom_211, rX4_paintFrom_212, rX4_paintFrom_213, rX4_paintFrom_214, rX4_paintFrom_215, rX4_paintFrom_216, rX4_paintFrom_218, rX4_paintFrom_221, rX4_paintFrom_222, rX4_paintFrom_225]
  · by_cases h12 : topP P = 1 ∨ topP P = 2
    · have emd : mdI (topP P) = 1 := by unfold mdI; rw [if_pos h12]
      rw [emd] at md
      by_cases hp : l.getD i 0 = 92 ∧ i + 1 < l.length
      · obtain ⟨I', f1, f2⟩ := fillIt I (i + 2) 7 1 P t Fr.rf st hm (by omega) (by omega)
        refine ⟨I', ?_, fun K => ?_⟩
        · simp only [stepP, if_neg h3, if_pos h12, if_pos hp]
          rw [emd]; exact f1
        · simp only [stepP, if_neg h3, if_pos h12, if_pos hp]
          have e2 : nI i + 2 = nI (i + 2) := nI_add i 2
          simp only [rX4_paintFrom_0, rX4_paintFrom_1, rX4_paintFrom_4, rX4_paintFrom_5, rX4_paintFrom_8, rX4_paintFrom_10, rX4_paintFrom_11, rX4_paintFrom_14, rX4_paintFrom_17, rX4_paintFrom_19, rX4_paintFrom_21, rX4_paintFrom_22, rX4_paintFrom_25, rX4_paintFrom_26, rX4_paintFrom_27, rX4_paintFrom_28, rX4_paintFrom_29, rX4_paintFrom_30, rX4_paintFrom_31, rX4_paintFrom_33, rX4_paintFrom_36, rX4_paintFrom_37, rX4_paintFrom_40, rX4_paintFrom_41, rX4_paintFrom_43, rX4_paintFrom_44, rX4_paintFrom_47, rX4_paintFrom_49, rX4_paintFrom_51, rX4_paintFrom_54, rX4_paintFrom_55, rX4_paintFrom_56, rX4_paintFrom_57, rX4_paintFrom_58, rX4_paintFrom_61, rX4_paintFrom_64, rX4_paintFrom_67, rX4_paintFrom_68, rX4_paintFrom_71, rX4_paintFrom_72, rX4_paintFrom_74, rX4_paintFrom_76, rX4_paintFrom_79, rX4_paintFrom_80, rX4_paintFrom_81, rX4_paintFrom_82, rX4_paintFrom_83, rX4_paintFrom_84, rX4_paintFrom_86, rX4_paintFrom_87, rX4_paintFrom_90, rX4_paintFrom_93, rX4_paintFrom_94, rX4_paintFrom_95, rX4_paintFrom_96, rX4_paintFrom_97, rX4_paintFrom_98, rX4_paintFrom_99, rX4_paintFrom_101, rX4_paintFrom_104, rX4_paintFrom_105, rX4_paintFrom_108, rX4_paintFrom_109, rX4_paintFrom_111, rX4_paintFrom_114, rX4_paintFrom_117, rX4_paintFrom_118, rX4_paintFrom_119, rX4_paintFrom_120, rX4_paintFrom_121, rX4_paintFrom_124, rX4_paintFrom_125, rX4_paintFrom_127, rX4_paintFrom_130, rX4_paintFrom_133, rX4_paintFrom_134, rX4_paintFrom_135, rX4_paintFrom_136, rX4_paintFrom_137, rX4_paintFrom_140, rX4_paintFrom_141, rX4_paintFrom_144, rX4_paintFrom_145, rX4_paintFrom_146, rX4_paintFrom_149, rX4_paintFrom_150, rX4_paintFrom_152, rX4_paintFrom_154, rX4_paintFrom_157, rX4_paintFrom_158, rX4_paintFrom_159, rX4_paintFrom_160, rX4_paintFrom_163, rX4_paintFrom_166, rX4_paintFrom_167, rX4_paintFrom_168, rX4_paintFrom_171, rX4_paintFrom_172, rX4_paintFrom_173, rX4_paintFrom_174, rX4_paintFrom_177, rX4_paintFrom_178, rX4_paintFrom_181, rX4_paintFrom_184, rX4_paintFrom_185, rX4_paintFrom_186, rX4_paintFrom_189, rX4_paintFrom_190, rX4_paintFrom_191, rX4_paintFrom_192, rX4_paintFrom_195, rX4_paintFrom_198, rX4_paintFrom_199, rX4_paintFrom_200, rX4_paintFrom_201, rX4_paintFrom_202, rX4_paintFrom_203, rX4_paintFrom_205, rX4_paintFrom_206, rX4_paintFrom_209, rX4_paintFrom_210, rX4_paintFrom_211, rX4_paintFrom_212, rX4_paintFrom_213, rX4_paintFrom_214, rX4_paintFrom_215, rX4_paintFrom_216, rX4_paintFrom_218, rX4_paintFrom_221, rX4_paintFrom_222, rX4_paintFrom_225, o1, o2, rf_some, o6.1, true_and, sg, md, tl_some, pok.1, pok.2.1, pok.2.2.1.1, nI_1, r.1, e2]
          rw [if_pos (by decide), if_neg (by decide), if_neg (fun z => z hp.1), if_neg (nI_ge (show i + 1 < l.length by omega) (by omega))]
          rw [if_neg (by decide), f2]
          simp only [tl_some, rX4_paintFrom_0, rX4_paintFrom_1, rX4_paintFrom_4, rX4_paintFrom_5, rX4_paintFrom_8, rX4_paintFrom_10, rX4_paintFrom_11, rX4_paintFrom_14, rX4_paintFrom_17, rX4_paintFrom_19, rX4_paintFrom_21, rX4_paintFrom_22, rX4_paintFrom_25, rX4_paintFrom_26, rX4_paintFrom_27, rX4_paintFrom_28, rX4_paintFrom_29, rX4_paintFrom_30, rX4_paintFrom_31, rX4_paintFrom_33, rX4_paintFrom_36, rX4_paintFrom_37, rX4_paintFrom_40, rX4_paintFrom_41, rX4_paintFrom_43, rX4_paintFrom_44, rX4_paintFrom_47, rX4_paintFrom_49, rX4_paintFrom_51, rX4_paintFrom_54, rX4_paintFrom_55, rX4_paintFrom_56, rX4_paintFrom_57, rX4_paintFrom_58, rX4_paintFrom_61, rX4_paintFrom_64, rX4_paintFrom_67, rX4_paintFrom_68, rX4_paintFrom_71, rX4_paintFrom_72, rX4_paintFrom_74, rX4_paintFrom_76, rX4_paintFrom_79, rX4_paintFrom_80, rX4_paintFrom_81, rX4_paintFrom_82, rX4_paintFrom_83, rX4_paintFrom_84, rX4_paintFrom_86, rX4_paintFrom_87, rX4_paintFrom_90, rX4_paintFrom_93, rX4_paintFrom_94, rX4_paintFrom_95, rX4_paintFrom_96, rX4_paintFrom_97, rX4_paintFrom_98, rX4_paintFrom_99, rX4_paintFrom_101, rX4_paintFrom_104, rX4_paintFrom_105, rX4_paintFrom_108, rX4_paintFrom_109, rX4_paintFrom_111, rX4_paintFrom_114, rX4_paintFrom_117, rX4_paintFrom_118, rX4_paintFrom_119, rX4_paintFrom_120, rX4_paintFrom_121, rX4_paintFrom_124, rX4_paintFrom_125, rX4_paintFrom_127, rX4_paintFrom_130, rX4_paintFrom_133, rX4_paintFrom_134, rX4_paintFrom_135, rX4_paintFrom_136, rX4_paintFrom_137, rX4_paintFrom_140, rX4_paintFrom_141, rX4_paintFrom_144, rX4_paintFrom_145, rX4_paintFrom_146, rX4_paintFrom_149, rX4_paintFrom_150, rX4_paintFrom_152, rX4_paintFrom_154, rX4_paintFrom_157, rX4_paintFrom_158, rX4_paintFrom_159, rX4_paintFrom_160, rX4_paintFrom_163, rX4_paintFrom_166, rX4_paintFrom_167, rX4_paintFrom_168, rX4_paintFrom_171, rX4_paintFrom_172, rX4_paintFrom_173, rX4_paintFrom_174, rX4_paintFrom_177, rX4_paintFrom_178, rX4_paintFrom_181, rX4_paintFrom_184, rX4_paintFrom_185, rX4_paintFrom_186, rX4_paintFrom_189, rX4_paintFrom_190, rX4_paintFrom_191, rX4_paintFrom_192, rX4_paintFrom_195, rX4_paintFrom_198, rX4_paintFrom_199, rX4_paintFrom_200, rX4_paintFrom_201, rX4_paintFrom_202, rX4_paintFrom_203, rX4_paintFrom_205, rX4_paintFrom_206, rX4_paintFrom_209, rX4_paintFrom_210, rX4_paintFrom_211, rX4_paintFrom_212, rX4_paintFrom_213, rX4_paintFrom_214, rX4_paintFrom_215, rX4_paintFrom_216, rX4_paintFrom_218, rX4_paintFrom_221, rX4_paintFrom_222, rX4_paintFrom_225]
      · obtain ⟨I1, g1, g2, g3⟩ := c_takeS (J := J) (c := l.getD i 0) pok st hP h12
        have em : I1 89 1 = mkI t := by rw [g2 89 (by omega)]; exact hm
        obtain ⟨I', f1, f2⟩ := fillIt I1 (i + 1) (strC P (l.getD i 0)) 1 (strP P (l.getD i 0)) t (g2.wk (fun c z => Or.inr z)) g1 em (by omega) (by omega)
        refine ⟨I', ?_, fun K => ?_⟩
        · simp only [stepP, if_neg h3, if_pos h12, if_neg hp]
          rw [emd]; exact f1
        · simp only [stepP, if_neg h3, if_pos h12, if_neg hp]
          have fin : WP mX4_paintFrom 93 [.ref 89, .ref b, .int (nI i), .ref 76, .int (l.getD i 0), .int 1, .int 0] [] w (I, Q, J) K ↔ K (some (.int (nI (i + 1)))) w (I', Q, J) := by
            simp only [rX4_paintFrom_0, rX4_paintFrom_1, rX4_paintFrom_4, rX4_paintFrom_5, rX4_paintFrom_8, rX4_paintFrom_10, rX4_paintFrom_11, rX4_paintFrom_14, rX4_paintFrom_17, rX4_paintFrom_19, rX4_paintFrom_21, rX4_paintFrom_22, rX4_paintFrom_25, rX4_paintFrom_26, rX4_paintFrom_27, rX4_paintFrom_28, rX4_paintFrom_29, rX4_paintFrom_30, rX4_paintFrom_31, rX4_paintFrom_33, rX4_paintFrom_36, rX4_paintFrom_37, rX4_paintFrom_40, rX4_paintFrom_41, rX4_paintFrom_43, rX4_paintFrom_44, rX4_paintFrom_47, rX4_paintFrom_49, rX4_paintFrom_51, rX4_paintFrom_54, rX4_paintFrom_55, rX4_paintFrom_56, rX4_paintFrom_57, rX4_paintFrom_58, rX4_paintFrom_61, rX4_paintFrom_64, rX4_paintFrom_67, rX4_paintFrom_68, rX4_paintFrom_71, rX4_paintFrom_72, rX4_paintFrom_74, rX4_paintFrom_76, rX4_paintFrom_79, rX4_paintFrom_80, rX4_paintFrom_81, rX4_paintFrom_82, rX4_paintFrom_83, rX4_paintFrom_84, rX4_paintFrom_86, rX4_paintFrom_87, rX4_paintFrom_90, rX4_paintFrom_93, rX4_paintFrom_94, rX4_paintFrom_95, rX4_paintFrom_96, rX4_paintFrom_97, rX4_paintFrom_98, rX4_paintFrom_99, rX4_paintFrom_101, rX4_paintFrom_104, rX4_paintFrom_105, rX4_paintFrom_108, rX4_paintFrom_109, rX4_paintFrom_111, rX4_paintFrom_114, rX4_paintFrom_117, rX4_paintFrom_118, rX4_paintFrom_119, rX4_paintFrom_120, rX4_paintFrom_121, rX4_paintFrom_124, rX4_paintFrom_125, rX4_paintFrom_127, rX4_paintFrom_130, rX4_paintFrom_133, rX4_paintFrom_134, rX4_paintFrom_135, rX4_paintFrom_136, rX4_paintFrom_137, rX4_paintFrom_140, rX4_paintFrom_141, rX4_paintFrom_144, rX4_paintFrom_145, rX4_paintFrom_146, rX4_paintFrom_149, rX4_paintFrom_150, rX4_paintFrom_152, rX4_paintFrom_154, rX4_paintFrom_157, rX4_paintFrom_158, rX4_paintFrom_159, rX4_paintFrom_160, rX4_paintFrom_163, rX4_paintFrom_166, rX4_paintFrom_167, rX4_paintFrom_168, rX4_paintFrom_171, rX4_paintFrom_172, rX4_paintFrom_173, rX4_paintFrom_174, rX4_paintFrom_177, rX4_paintFrom_178, rX4_paintFrom_181, rX4_paintFrom_184, rX4_paintFrom_185, rX4_paintFrom_186, rX4_paintFrom_189, rX4_paintFrom_190, rX4_paintFrom_191, rX4_paintFrom_192, rX4_paintFrom_195, rX4_paintFrom_198, rX4_paintFrom_199, rX4_paintFrom_200, rX4_paintFrom_201, rX4_paintFrom_202, rX4_paintFrom_203, rX4_paintFrom_205, rX4_paintFrom_206, rX4_paintFrom_209, rX4_paintFrom_210, rX4_paintFrom_211, rX4_paintFrom_212, rX4_paintFrom_213, rX4_paintFrom_214, rX4_paintFrom_215, rX4_paintFrom_216, rX4_paintFrom_218, rX4_paintFrom_221, rX4_paintFrom_222, rX4_paintFrom_225, nI_1, pok.1, true_and]
            rw [g3]
            simp only [tl_some, rX4_paintFrom_0, rX4_paintFrom_1, rX4_paintFrom_4, rX4_paintFrom_5, rX4_paintFrom_8, rX4_paintFrom_10, rX4_paintFrom_11, rX4_paintFrom_14, rX4_paintFrom_17, rX4_paintFrom_19, rX4_paintFrom_21, rX4_paintFrom_22, rX4_paintFrom_25, rX4_paintFrom_26, rX4_paintFrom_27, rX4_paintFrom_28, rX4_paintFrom_29, rX4_paintFrom_30, rX4_paintFrom_31, rX4_paintFrom_33, rX4_paintFrom_36, rX4_paintFrom_37, rX4_paintFrom_40, rX4_paintFrom_41, rX4_paintFrom_43, rX4_paintFrom_44, rX4_paintFrom_47, rX4_paintFrom_49, rX4_paintFrom_51, rX4_paintFrom_54, rX4_paintFrom_55, rX4_paintFrom_56, rX4_paintFrom_57, rX4_paintFrom_58, rX4_paintFrom_61, rX4_paintFrom_64, rX4_paintFrom_67, rX4_paintFrom_68, rX4_paintFrom_71, rX4_paintFrom_72, rX4_paintFrom_74, rX4_paintFrom_76, rX4_paintFrom_79, rX4_paintFrom_80, rX4_paintFrom_81, rX4_paintFrom_82, rX4_paintFrom_83, rX4_paintFrom_84, rX4_paintFrom_86, rX4_paintFrom_87, rX4_paintFrom_90, rX4_paintFrom_93, rX4_paintFrom_94, rX4_paintFrom_95, rX4_paintFrom_96, rX4_paintFrom_97, rX4_paintFrom_98, rX4_paintFrom_99, rX4_paintFrom_101, rX4_paintFrom_104, rX4_paintFrom_105, rX4_paintFrom_108, rX4_paintFrom_109, rX4_paintFrom_111, rX4_paintFrom_114, rX4_paintFrom_117, rX4_paintFrom_118, rX4_paintFrom_119, rX4_paintFrom_120, rX4_paintFrom_121, rX4_paintFrom_124, rX4_paintFrom_125, rX4_paintFrom_127, rX4_paintFrom_130, rX4_paintFrom_133, rX4_paintFrom_134, rX4_paintFrom_135, rX4_paintFrom_136, rX4_paintFrom_137, rX4_paintFrom_140, rX4_paintFrom_141, rX4_paintFrom_144, rX4_paintFrom_145, rX4_paintFrom_146, rX4_paintFrom_149, rX4_paintFrom_150, rX4_paintFrom_152, rX4_paintFrom_154, rX4_paintFrom_157, rX4_paintFrom_158, rX4_paintFrom_159, rX4_paintFrom_160, rX4_paintFrom_163, rX4_paintFrom_166, rX4_paintFrom_167, rX4_paintFrom_168, rX4_paintFrom_171, rX4_paintFrom_172, rX4_paintFrom_173, rX4_paintFrom_174, rX4_paintFrom_177, rX4_paintFrom_178, rX4_paintFrom_181, rX4_paintFrom_184, rX4_paintFrom_185, rX4_paintFrom_186, rX4_paintFrom_189, rX4_paintFrom_190, rX4_paintFrom_191, rX4_paintFrom_192, rX4_paintFrom_195, rX4_paintFrom_198, rX4_paintFrom_199, rX4_paintFrom_200, rX4_paintFrom_201, rX4_paintFrom_202, rX4_paintFrom_203, rX4_paintFrom_205, rX4_paintFrom_206, rX4_paintFrom_209, rX4_paintFrom_210, rX4_paintFrom_211, rX4_paintFrom_212, rX4_paintFrom_213, rX4_paintFrom_214, rX4_paintFrom_215, rX4_paintFrom_216, rX4_paintFrom_218, rX4_paintFrom_221, rX4_paintFrom_222, rX4_paintFrom_225, o1, true_and]
            rw [f2]
            simp only [tl_some, rX4_paintFrom_0, rX4_paintFrom_1, rX4_paintFrom_4, rX4_paintFrom_5, rX4_paintFrom_8, rX4_paintFrom_10, rX4_paintFrom_11, rX4_paintFrom_14, rX4_paintFrom_17, rX4_paintFrom_19, rX4_paintFrom_21, rX4_paintFrom_22, rX4_paintFrom_25, rX4_paintFrom_26, rX4_paintFrom_27, rX4_paintFrom_28, rX4_paintFrom_29, rX4_paintFrom_30, rX4_paintFrom_31, rX4_paintFrom_33, rX4_paintFrom_36, rX4_paintFrom_37, rX4_paintFrom_40, rX4_paintFrom_41, rX4_paintFrom_43, rX4_paintFrom_44, rX4_paintFrom_47, rX4_paintFrom_49, rX4_paintFrom_51, rX4_paintFrom_54, rX4_paintFrom_55, rX4_paintFrom_56, rX4_paintFrom_57, rX4_paintFrom_58, rX4_paintFrom_61, rX4_paintFrom_64, rX4_paintFrom_67, rX4_paintFrom_68, rX4_paintFrom_71, rX4_paintFrom_72, rX4_paintFrom_74, rX4_paintFrom_76, rX4_paintFrom_79, rX4_paintFrom_80, rX4_paintFrom_81, rX4_paintFrom_82, rX4_paintFrom_83, rX4_paintFrom_84, rX4_paintFrom_86, rX4_paintFrom_87, rX4_paintFrom_90, rX4_paintFrom_93, rX4_paintFrom_94, rX4_paintFrom_95, rX4_paintFrom_96, rX4_paintFrom_97, rX4_paintFrom_98, rX4_paintFrom_99, rX4_paintFrom_101, rX4_paintFrom_104, rX4_paintFrom_105, rX4_paintFrom_108, rX4_paintFrom_109, rX4_paintFrom_111, rX4_paintFrom_114, rX4_paintFrom_117, rX4_paintFrom_118, rX4_paintFrom_119, rX4_paintFrom_120, rX4_paintFrom_121, rX4_paintFrom_124, rX4_paintFrom_125, rX4_paintFrom_127, rX4_paintFrom_130, rX4_paintFrom_133, rX4_paintFrom_134, rX4_paintFrom_135, rX4_paintFrom_136, rX4_paintFrom_137, rX4_paintFrom_140, rX4_paintFrom_141, rX4_paintFrom_144, rX4_paintFrom_145, rX4_paintFrom_146, rX4_paintFrom_149, rX4_paintFrom_150, rX4_paintFrom_152, rX4_paintFrom_154, rX4_paintFrom_157, rX4_paintFrom_158, rX4_paintFrom_159, rX4_paintFrom_160, rX4_paintFrom_163, rX4_paintFrom_166, rX4_paintFrom_167, rX4_paintFrom_168, rX4_paintFrom_171, rX4_paintFrom_172, rX4_paintFrom_173, rX4_paintFrom_174, rX4_paintFrom_177, rX4_paintFrom_178, rX4_paintFrom_181, rX4_paintFrom_184, rX4_paintFrom_185, rX4_paintFrom_186, rX4_paintFrom_189, rX4_paintFrom_190, rX4_paintFrom_191, rX4_paintFrom_192, rX4_paintFrom_195, rX4_paintFrom_198, rX4_paintFrom_199, rX4_paintFrom_200, rX4_paintFrom_201, rX4_paintFrom_202, rX4_paintFrom_203, rX4_paintFrom_205, rX4_paintFrom_206, rX4_paintFrom_209, rX4_paintFrom_210, rX4_paintFrom_211, rX4_paintFrom_212, rX4_paintFrom_213, rX4_paintFrom_214, rX4_paintFrom_215, rX4_paintFrom_216, rX4_paintFrom_218, rX4_paintFrom_221, rX4_paintFrom_222, rX4_paintFrom_225]
          simp only [rX4_paintFrom_0, rX4_paintFrom_1, rX4_paintFrom_4, rX4_paintFrom_5, rX4_paintFrom_8, rX4_paintFrom_10, rX4_paintFrom_11, rX4_paintFrom_14, rX4_paintFrom_17, rX4_paintFrom_19, rX4_paintFrom_21, rX4_paintFrom_22, rX4_paintFrom_25, rX4_paintFrom_26, rX4_paintFrom_27, rX4_paintFrom_28, rX4_paintFrom_29, rX4_paintFrom_30, rX4_paintFrom_31, rX4_paintFrom_33, rX4_paintFrom_36, rX4_paintFrom_37, rX4_paintFrom_40, rX4_paintFrom_41, rX4_paintFrom_43, rX4_paintFrom_44, rX4_paintFrom_47, rX4_paintFrom_49, rX4_paintFrom_51, rX4_paintFrom_54, rX4_paintFrom_55, rX4_paintFrom_56, rX4_paintFrom_57, rX4_paintFrom_58, rX4_paintFrom_61, rX4_paintFrom_64, rX4_paintFrom_67, rX4_paintFrom_68, rX4_paintFrom_71, rX4_paintFrom_72, rX4_paintFrom_74, rX4_paintFrom_76, rX4_paintFrom_79, rX4_paintFrom_80, rX4_paintFrom_81, rX4_paintFrom_82, rX4_paintFrom_83, rX4_paintFrom_84, rX4_paintFrom_86, rX4_paintFrom_87, rX4_paintFrom_90, o1, o2, rf_some, o6.1, true_and, sg, md, tl_some, pok.1, pok.2.1, pok.2.2.1.1, nI_1, r.1]
          rw [if_pos (by decide), if_neg (by decide)]
          by_cases q1 : l.getD i 0 = 92
          · have q2 : ¬ i + 1 < l.length := fun z => hp ⟨q1, z⟩
            rw [if_neg (fun z => z q1), if_pos (nI_le (show l.length ≤ i + 1 by omega) (by omega)), if_pos trivial]
            exact fin
          · rw [if_pos q1, if_pos trivial]
            exact fin
    · -- code
      have h0 : topP P = 0 := by omega
      have emd : mdI (topP P) = 0 := by rw [h0]; rfl
      rw [emd] at md
      have hd : ∀ {K : Option Value → WS → HS → Prop}, WP mX4_paintFrom 0 [.ref 89, .ref b, .int (nI i), .ref 76, .null, .null, .null] [] w (I, Q, J) K ↔ WP mX4_paintFrom 109 [.ref 89, .ref b, .int (nI i), .ref 76, .int (l.getD i 0), .int 0, .null] [] w (I, Q, J) K := by
        intro K
        simp only [rX4_paintFrom_0, rX4_paintFrom_1, rX4_paintFrom_4, rX4_paintFrom_5, rX4_paintFrom_8, rX4_paintFrom_10, rX4_paintFrom_11, rX4_paintFrom_14, rX4_paintFrom_17, rX4_paintFrom_19, rX4_paintFrom_21, rX4_paintFrom_22, rX4_paintFrom_25, rX4_paintFrom_26, rX4_paintFrom_27, rX4_paintFrom_28, rX4_paintFrom_29, rX4_paintFrom_30, rX4_paintFrom_31, rX4_paintFrom_33, rX4_paintFrom_36, rX4_paintFrom_37, rX4_paintFrom_40, rX4_paintFrom_41, rX4_paintFrom_43, rX4_paintFrom_44, o1, o2, rf_some, o6.1, true_and, sg, md, tl_some, pok.1, pok.2.1, pok.2.2.1.1]
        rw [if_pos (by decide), if_pos (by decide)]
      by_cases q1 : isL (l.getD i 0)
      · obtain ⟨I', g1, g2, g3⟩ := c_name (J := J) pok ok r h30 hi hW rw0 hc pt
        refine ⟨I', ?_, fun K => ?_⟩
        · simp only [stepP, if_neg h3, if_neg h12, if_pos q1]
          rw [emd]
          exact ⟨g2, st.fr (g1 90 (by omega)) (g1 91 (by omega)), by rw [g1 89 (by omega)]; exact hm, g1.wk (fun c z => by omega)⟩
        · simp only [stepP, if_neg h3, if_neg h12, if_pos q1]
          rw [hd]
          simp only [rX4_paintFrom_109, rX4_paintFrom_111, rX4_paintFrom_114, rX4_paintFrom_117, rX4_paintFrom_118, rX4_paintFrom_119, rX4_paintFrom_120, rX4_paintFrom_121, rX4_paintFrom_124, c_isLetter, tl_some]
          rw [if_pos q1, if_neg (by decide)]
          simp only [pok.1, true_and]
          rw [g3]
          simp only [tl_some, rX4_paintFrom_109, rX4_paintFrom_111, rX4_paintFrom_114, rX4_paintFrom_117, rX4_paintFrom_118, rX4_paintFrom_119, rX4_paintFrom_120, rX4_paintFrom_121, rX4_paintFrom_124]
      · have hd2 : ∀ {K : Option Value → WS → HS → Prop}, WP mX4_paintFrom 109 [.ref 89, .ref b, .int (nI i), .ref 76, .int (l.getD i 0), .int 0, .null] [] w (I, Q, J) K ↔ WP mX4_paintFrom 125 [.ref 89, .ref b, .int (nI i), .ref 76, .int (l.getD i 0), .int 0, .null] [] w (I, Q, J) K := by
          intro K
          simp only [rX4_paintFrom_109, rX4_paintFrom_111, rX4_paintFrom_114, rX4_paintFrom_117, rX4_paintFrom_118, rX4_paintFrom_119, rX4_paintFrom_120, rX4_paintFrom_121, rX4_paintFrom_124, c_isLetter, tl_some]
          rw [if_neg q1, if_pos rfl]
        by_cases q2 : isF (l.getD i 0)
        · have hr := runE_le (fun c => decide (isF c)) l (l.length - (i + 1)) (i + 1)
          obtain ⟨I', f1, f2⟩ := fillIt I (runE (fun c => decide (isF c)) l (l.length - (i + 1)) (i + 1)) 3 0 P t Fr.rf st hm (by omega) (by omega)
          refine ⟨I', ?_, fun K => ?_⟩
          · simp only [stepP, if_neg h3, if_neg h12, if_neg q1, if_pos q2]
            rw [emd]; exact f1
          · simp only [stepP, if_neg h3, if_neg h12, if_neg q1, if_pos q2]
            rw [hd, hd2]
            simp only [rX4_paintFrom_125, rX4_paintFrom_127, rX4_paintFrom_130, rX4_paintFrom_133, rX4_paintFrom_134, rX4_paintFrom_135, rX4_paintFrom_136, rX4_paintFrom_137, rX4_paintFrom_140, rX4_paintFrom_141, rX4_paintFrom_144, rX4_paintFrom_145, rX4_paintFrom_146, rX4_paintFrom_149, c_isFigure, tl_some]
            rw [if_pos q2, if_neg (by decide)]
            simp only [rX4_paintFrom_125, rX4_paintFrom_127, rX4_paintFrom_130, rX4_paintFrom_133, rX4_paintFrom_134, rX4_paintFrom_135, rX4_paintFrom_136, rX4_paintFrom_137, rX4_paintFrom_140, rX4_paintFrom_141, rX4_paintFrom_144, rX4_paintFrom_145, rX4_paintFrom_146, rX4_paintFrom_149, pok.1, o1, o2, rf_some, true_and]
            rw [c_figs o6 r h30 h30 hi]
            simp only [tl_some, rX4_paintFrom_125, rX4_paintFrom_127, rX4_paintFrom_130, rX4_paintFrom_133, rX4_paintFrom_134, rX4_paintFrom_135, rX4_paintFrom_136, rX4_paintFrom_137, rX4_paintFrom_140, rX4_paintFrom_141, rX4_paintFrom_144, rX4_paintFrom_145, rX4_paintFrom_146, rX4_paintFrom_149, o1, true_and]
            rw [f2]
            simp only [tl_some, rX4_paintFrom_125, rX4_paintFrom_127, rX4_paintFrom_130, rX4_paintFrom_133, rX4_paintFrom_134, rX4_paintFrom_135, rX4_paintFrom_136, rX4_paintFrom_137, rX4_paintFrom_140, rX4_paintFrom_141, rX4_paintFrom_144, rX4_paintFrom_145, rX4_paintFrom_146, rX4_paintFrom_149]
        · have hd3 : ∀ {K : Option Value → WS → HS → Prop}, WP mX4_paintFrom 125 [.ref 89, .ref b, .int (nI i), .ref 76, .int (l.getD i 0), .int 0, .null] [] w (I, Q, J) K ↔ WP mX4_paintFrom 150 [.ref 89, .ref b, .int (nI i), .ref 76, .int (l.getD i 0), .int 0, .null] [] w (I, Q, J) K := by
            intro K
            simp only [rX4_paintFrom_125, rX4_paintFrom_127, rX4_paintFrom_130, rX4_paintFrom_133, rX4_paintFrom_134, rX4_paintFrom_135, rX4_paintFrom_136, rX4_paintFrom_137, rX4_paintFrom_140, rX4_paintFrom_141, rX4_paintFrom_144, rX4_paintFrom_145, rX4_paintFrom_146, rX4_paintFrom_149, c_isFigure, tl_some]
            rw [if_neg q2, if_pos rfl]
          by_cases q3 : l.getD i 0 = 35
          · obtain ⟨I', f1, f2⟩ := fillIt I l.length 5 0 P t Fr.rf st hm (by omega) (by omega)
            refine ⟨I', ?_, fun K => ?_⟩
            · simp only [stepP, if_neg h3, if_neg h12, if_neg q1, if_neg q2, if_pos q3]
              rw [emd]; exact f1
            · simp only [stepP, if_neg h3, if_neg h12, if_neg q1, if_neg q2, if_pos q3]
              rw [hd, hd2, hd3]
              simp only [rX4_paintFrom_150, rX4_paintFrom_152, rX4_paintFrom_154, rX4_paintFrom_157, rX4_paintFrom_158, rX4_paintFrom_159, rX4_paintFrom_160, rX4_paintFrom_163, rX4_paintFrom_166, rX4_paintFrom_167, rX4_paintFrom_168, rX4_paintFrom_171, o1, o2, rf_some, o6.1, true_and, r.1]
              rw [if_neg (fun z => z q3), f2]
              simp only [tl_some, rX4_paintFrom_150, rX4_paintFrom_152, rX4_paintFrom_154, rX4_paintFrom_157, rX4_paintFrom_158, rX4_paintFrom_159, rX4_paintFrom_160, rX4_paintFrom_163, rX4_paintFrom_166, rX4_paintFrom_167, rX4_paintFrom_168, rX4_paintFrom_171]
          · have hd4 : ∀ {K : Option Value → WS → HS → Prop}, WP mX4_paintFrom 150 [.ref 89, .ref b, .int (nI i), .ref 76, .int (l.getD i 0), .int 0, .null] [] w (I, Q, J) K ↔ WP mX4_paintFrom 172 [.ref 89, .ref b, .int (nI i), .ref 76, .int (l.getD i 0), .int 0, .null] [] w (I, Q, J) K := by
              intro K
              simp only [rX4_paintFrom_150, rX4_paintFrom_152, rX4_paintFrom_154]
              rw [if_pos q3]
            by_cases q4 : (l.getD i 0 = 60 ∧ i + 1 < l.length ∧ isC (l.getD (i + 1) 0)) ∧ P.length = 1 ∧ t = 0
            · have hcap := capI q4.1.2.2
              obtain ⟨I', f1, f2⟩ := fillIt (u2 I 89 1 (l.getD (i + 1) 0)) (i + 2) 7 0 P ((l.getD (i + 1) 0).toNatClampNeg - 64) (Fr_u2.wk (fun c z => Or.inl z)) (st.fr (Fr_u2 90 (by decide)) (Fr_u2 91 (by decide))) (by rw [u2_same]; exact hcap.1.symm) (by omega) (by omega)
              refine ⟨I', ?_, fun K => ?_⟩
              · simp only [stepP, if_neg h3, if_neg h12, if_neg q1, if_neg q2, if_neg q3, if_pos q4]
                rw [emd]; exact f1
              · simp only [stepP, if_neg h3, if_neg h12, if_neg q1, if_neg q2, if_neg q3, if_pos q4]
                have e2 : nI i + 2 = nI (i + 2) := nI_add i 2
                rw [hd, hd2, hd3, hd4]
                simp only [rX4_paintFrom_172, rX4_paintFrom_173, rX4_paintFrom_174, rX4_paintFrom_177, rX4_paintFrom_178, rX4_paintFrom_181, rX4_paintFrom_184, rX4_paintFrom_185, rX4_paintFrom_186, rX4_paintFrom_189, rX4_paintFrom_190, rX4_paintFrom_191, rX4_paintFrom_192, rX4_paintFrom_195, rX4_paintFrom_198, rX4_paintFrom_199, rX4_paintFrom_200, rX4_paintFrom_201, rX4_paintFrom_202, rX4_paintFrom_203, rX4_paintFrom_205, rX4_paintFrom_206, rX4_paintFrom_209, o1, o2, rf_some, o6.1, true_and, pok.1]
                rw [c_beginsMark pok o6 r h30 h30 hi st hP hm ht, if_pos q4]
                simp only [tl_some, rX4_paintFrom_172, rX4_paintFrom_173, rX4_paintFrom_174, rX4_paintFrom_177, rX4_paintFrom_178, rX4_paintFrom_181, rX4_paintFrom_184, rX4_paintFrom_185, rX4_paintFrom_186, rX4_paintFrom_189, rX4_paintFrom_190, rX4_paintFrom_191, rX4_paintFrom_192, rX4_paintFrom_195, rX4_paintFrom_198, rX4_paintFrom_199, rX4_paintFrom_200, rX4_paintFrom_201, rX4_paintFrom_202, rX4_paintFrom_203, rX4_paintFrom_205, rX4_paintFrom_206, rX4_paintFrom_209, o1, o2, rf_some, o6.1, true_and, nI_1, e2]
                rw [if_neg (by decide), c_signAt o6 r h30 (by omega), if_pos q4.1.2.1]
                simp only [tl_some, rX4_paintFrom_172, rX4_paintFrom_173, rX4_paintFrom_174, rX4_paintFrom_177, rX4_paintFrom_178, rX4_paintFrom_181, rX4_paintFrom_184, rX4_paintFrom_185, rX4_paintFrom_186, rX4_paintFrom_189, rX4_paintFrom_190, rX4_paintFrom_191, rX4_paintFrom_192, rX4_paintFrom_195, rX4_paintFrom_198, rX4_paintFrom_199, rX4_paintFrom_200, rX4_paintFrom_201, rX4_paintFrom_202, rX4_paintFrom_203, rX4_paintFrom_205, rX4_paintFrom_206, rX4_paintFrom_209, o1, true_and, e2, pok.1]
                rw [f2]
                simp only [tl_some, rX4_paintFrom_172, rX4_paintFrom_173, rX4_paintFrom_174, rX4_paintFrom_177, rX4_paintFrom_178, rX4_paintFrom_181, rX4_paintFrom_184, rX4_paintFrom_185, rX4_paintFrom_186, rX4_paintFrom_189, rX4_paintFrom_190, rX4_paintFrom_191, rX4_paintFrom_192, rX4_paintFrom_195, rX4_paintFrom_198, rX4_paintFrom_199, rX4_paintFrom_200, rX4_paintFrom_201, rX4_paintFrom_202, rX4_paintFrom_203, rX4_paintFrom_205, rX4_paintFrom_206, rX4_paintFrom_209]
            · obtain ⟨I1, g1, g2, g3⟩ := c_takeC (J := J) (c := l.getD i 0) pok st hP
              have em : I1 89 1 = mkI t := by rw [g2 89 (by omega)]; exact hm
              obtain ⟨I', f1, f2⟩ := fillIt I1 (i + 1) (codC P (l.getD i 0)) 0 (codP P (l.getD i 0)) t (g2.wk (fun c z => Or.inr z)) g1 em (by omega) (by omega)
              refine ⟨I', ?_, fun K => ?_⟩
              · simp only [stepP, if_neg h3, if_neg h12, if_neg q1, if_neg q2, if_neg q3, if_neg q4]
                rw [emd]; exact f1
              · simp only [stepP, if_neg h3, if_neg h12, if_neg q1, if_neg q2, if_neg q3, if_neg q4]
                rw [hd, hd2, hd3, hd4]
                simp only [rX4_paintFrom_172, rX4_paintFrom_173, rX4_paintFrom_174, rX4_paintFrom_177, rX4_paintFrom_178, rX4_paintFrom_181, rX4_paintFrom_184, rX4_paintFrom_185, rX4_paintFrom_186, rX4_paintFrom_189, rX4_paintFrom_190, rX4_paintFrom_191, rX4_paintFrom_192, rX4_paintFrom_195, rX4_paintFrom_198, rX4_paintFrom_199, rX4_paintFrom_200, rX4_paintFrom_201, rX4_paintFrom_202, rX4_paintFrom_203, rX4_paintFrom_205, rX4_paintFrom_206, rX4_paintFrom_209, rX4_paintFrom_210, rX4_paintFrom_211, rX4_paintFrom_212, rX4_paintFrom_213, rX4_paintFrom_214, rX4_paintFrom_215, rX4_paintFrom_216, rX4_paintFrom_218, rX4_paintFrom_221, rX4_paintFrom_222, rX4_paintFrom_225, o1, o2, rf_some, o6.1, true_and, pok.1]
                rw [c_beginsMark pok o6 r h30 h30 hi st hP hm ht, if_neg q4]
                simp only [tl_some, rX4_paintFrom_172, rX4_paintFrom_173, rX4_paintFrom_174, rX4_paintFrom_177, rX4_paintFrom_178, rX4_paintFrom_181, rX4_paintFrom_184, rX4_paintFrom_185, rX4_paintFrom_186, rX4_paintFrom_189, rX4_paintFrom_190, rX4_paintFrom_191, rX4_paintFrom_192, rX4_paintFrom_195, rX4_paintFrom_198, rX4_paintFrom_199, rX4_paintFrom_200, rX4_paintFrom_201, rX4_paintFrom_202, rX4_paintFrom_203, rX4_paintFrom_205, rX4_paintFrom_206, rX4_paintFrom_209, rX4_paintFrom_210, rX4_paintFrom_211, rX4_paintFrom_212, rX4_paintFrom_213, rX4_paintFrom_214, rX4_paintFrom_215, rX4_paintFrom_216, rX4_paintFrom_218, rX4_paintFrom_221, rX4_paintFrom_222, rX4_paintFrom_225, o1, true_and, nI_1, pok.1]
                rw [if_pos trivial, g3]
                simp only [tl_some, rX4_paintFrom_172, rX4_paintFrom_173, rX4_paintFrom_174, rX4_paintFrom_177, rX4_paintFrom_178, rX4_paintFrom_181, rX4_paintFrom_184, rX4_paintFrom_185, rX4_paintFrom_186, rX4_paintFrom_189, rX4_paintFrom_190, rX4_paintFrom_191, rX4_paintFrom_192, rX4_paintFrom_195, rX4_paintFrom_198, rX4_paintFrom_199, rX4_paintFrom_200, rX4_paintFrom_201, rX4_paintFrom_202, rX4_paintFrom_203, rX4_paintFrom_205, rX4_paintFrom_206, rX4_paintFrom_209, rX4_paintFrom_210, rX4_paintFrom_211, rX4_paintFrom_212, rX4_paintFrom_213, rX4_paintFrom_214, rX4_paintFrom_215, rX4_paintFrom_216, rX4_paintFrom_218, rX4_paintFrom_221, rX4_paintFrom_222, rX4_paintFrom_225, o1, true_and]
                rw [f2]
                simp only [tl_some, rX4_paintFrom_172, rX4_paintFrom_173, rX4_paintFrom_174, rX4_paintFrom_177, rX4_paintFrom_178, rX4_paintFrom_181, rX4_paintFrom_184, rX4_paintFrom_185, rX4_paintFrom_186, rX4_paintFrom_189, rX4_paintFrom_190, rX4_paintFrom_191, rX4_paintFrom_192, rX4_paintFrom_195, rX4_paintFrom_198, rX4_paintFrom_199, rX4_paintFrom_200, rX4_paintFrom_201, rX4_paintFrom_202, rX4_paintFrom_203, rX4_paintFrom_205, rX4_paintFrom_206, rX4_paintFrom_209, rX4_paintFrom_210, rX4_paintFrom_211, rX4_paintFrom_212, rX4_paintFrom_213, rX4_paintFrom_214, rX4_paintFrom_215, rX4_paintFrom_216, rX4_paintFrom_218, rX4_paintFrom_221, rX4_paintFrom_222, rX4_paintFrom_225]
/-- a whole line -/
def paintL (W : List (List Int32)) (l : List Int32) : Nat → Nat → List Nat → Nat → List (Int32 × Int32) → List (Int32 × Int32) × List Nat × Nat
  | 0, _, P, t, c => (c, P, t)
  | n + 1, i, P, t, c => if i < l.length then paintL W l n (stepP W l i P t).1 (stepP W l i P t).2.2.1 (stepP W l i P t).2.2.2 (c ++ List.replicate ((stepP W l i P t).1 - i) ((stepP W l i P t).2.1, mdI (topP P))) else (c, P, t)
abbrev isMk (l : List Int32) (m : Nat) : Prop := l = [nI (64 + m)]
/-- the colours and modes of a line, and what stands open behind it -/
def lineP (W : List (List Int32)) (l : List Int32) (S : List Nat × Nat) : List (Int32 × Int32) × (List Nat × Nat) :=
  if S.2 ≠ 0 then (List.replicate l.length ((if isMk l S.2 then 7 else 4), 1), (S.1, if isMk l S.2 then 0 else S.2))
  else ((paintL W l l.length 0 S.1 0 []).1, (cutP (paintL W l l.length 0 S.1 0 []).2.1, (paintL W l l.length 0 S.1 0 []).2.2))
theorem paintL_ok {W : List (List Int32)} {l : List Int32} : ∀ n i P t c, stV (P, 0) → t ≤ 26 → c.length = i → i ≤ l.length → l.length ≤ n + i → (paintL W l n i P t c).1.length = l.length ∧ stV ((paintL W l n i P t c).2.1, 0) ∧ (paintL W l n i P t c).2.2 ≤ 26 := by
  intro n
  induction n with
  | zero =>
    intro i P t c hP ht hc hi hn
    exact ⟨by simp only [paintL]; omega, hP, ht⟩
  | succ n ih =>
    intro i P t c hP ht hc hi hn
    simp only [paintL]
    split
    · next q =>
      obtain ⟨h1, h2, h3, h4⟩ := stepP_ok (W := W) q hP ht
      exact ih _ _ _ _ h3 h4 (by simp; omega) h2 (by omega)
    · exact ⟨by dsimp only; omega, hP, ht⟩
theorem c_till (pok : pnOK w Q) (ok : lnOK w Q b) (hb : b + 6 < 76) (r : rowIs I (b + 1) (b + 2) l) (h30 : l.length ≤ 30) {S : List Nat × Nat} (st : stIs I 90 91 S) (hS : stV S) (h0 : S.2 ≠ 0) : ∃ I', ptIs I' b (List.replicate l.length ((if isMk l S.2 then 7 else 4), 1)) ∧ stIs I' 90 91 (S.1, if isMk l S.2 then 0 else S.2) ∧ Fr (fun c => c = 89 ∨ c = 90 ∨ c = 91 ∨ c = b + 3 ∨ c = b + 4) I I' ∧ ∀ K, (WP mX4_paintTillMark 0 [.ref 89, .ref b, .null] [] w (I, Q, J) K ↔ K none w (I', Q, J)) := by
  obtain ⟨o1, o2, o3, o4, o5, o6, o7, o8, o9⟩ := id ok
  have hmk : mkI S.2 = nI (64 + S.2) := by unfold mkI; rw [if_neg h0]
  obtain ⟨I1, g1, g2, g3⟩ := c_fillPt (J := J) (f := 0) (t := l.length) (x := if isMk l S.2 then 7 else 4) (y := 1) (c := []) ok r h30 (Nat.le_refl _) (Nat.zero_le _) rfl (fun j hj => by simp at hj)
  rw [List.nil_append, Nat.sub_zero] at g2
  rw [nI_0] at g3
  have st1 : stIs I1 90 91 S := st.fr (g1 90 (by omega)) (g1 91 (by omega))
  have e0 : I1 90 = I 90 := g1 90 (by omega)
  by_cases hq : isMk l S.2
  · have hl1 : l.length = 1 := by rw [hq]; rfl
    refine ⟨u2 I1 90 2 (-1), g2.fr (Fr_u2 _ (by omega)) (Fr_u2 _ (by omega)), ?_, Fr.tr g1 Fr_u2 (fun c z => by omega) (fun c z => by omega), fun K => ?_⟩
    · rw [if_pos hq]
      refine ⟨?_, ?_, fun j hj => ?_⟩
      · rw [u2_ne (Or.inr (by decide))]; exact st1.1
      · rw [u2_same]; rfl
      · rw [u2_ne (Or.inl (by decide))]; exact st1.2.2 j hj
    · have sg : ∀ {K : Option Value → WS → HS → Prop}, WP mX5_signAt 0 [.ref (b + 1), .int 0] [] w (I, Q, J) K ↔ K (some (.int (nI (64 + S.2)))) w (I, Q, J) := by
        intro K
        have := c_signAt (K := K) (J := J) (i := 0) o6 r h30 (by omega)
        rw [nI_0, if_pos (by omega)] at this
        rw [this, hq]; rfl
      simp only [rX4_paintTillMark_0, rX4_paintTillMark_1, rX4_paintTillMark_4, rX4_paintTillMark_7, rX4_paintTillMark_8, rX4_paintTillMark_11, rX4_paintTillMark_12, rX4_paintTillMark_15, rX4_paintTillMark_16, rX4_paintTillMark_19, rX4_paintTillMark_20, rX4_paintTillMark_23, rX4_paintTillMark_26, rX4_paintTillMark_29, rX4_paintTillMark_30, rX4_paintTillMark_33, rX4_paintTillMark_34, rX4_paintTillMark_35, rX4_paintTillMark_36, rX4_paintTillMark_37, rX4_paintTillMark_38, rX4_paintTillMark_41, rX4_paintTillMark_44, rX4_paintTillMark_45, rX4_paintTillMark_48, rX4_paintTillMark_50, rX4_paintTillMark_53, rX4_paintTillMark_54, rX4_paintTillMark_55, rX4_paintTillMark_58, rX4_paintTillMark_59, rX4_paintTillMark_60, rX4_paintTillMark_63, rX4_paintTillMark_64, rX4_paintTillMark_67, rX4_paintTillMark_68, rX4_paintTillMark_71, o1, o2, rf_some, o6.1, true_and, r.1, sg, tl_some, pok.1, pok.2.1, pok.2.2.1.1, st.2.1, hmk]
      rw [if_neg (show ¬ ¬ nI l.length = 1 from fun z => z (by rw [hl1]; rfl)), if_neg (fun z => z trivial), if_neg (by decide)]
      rw [if_pos hq] at g3
      rw [g3]
      simp only [tl_some, rX4_paintTillMark_0, rX4_paintTillMark_1, rX4_paintTillMark_4, rX4_paintTillMark_7, rX4_paintTillMark_8, rX4_paintTillMark_11, rX4_paintTillMark_12, rX4_paintTillMark_15, rX4_paintTillMark_16, rX4_paintTillMark_19, rX4_paintTillMark_20, rX4_paintTillMark_23, rX4_paintTillMark_26, rX4_paintTillMark_29, rX4_paintTillMark_30, rX4_paintTillMark_33, rX4_paintTillMark_34, rX4_paintTillMark_35, rX4_paintTillMark_36, rX4_paintTillMark_37, rX4_paintTillMark_38, rX4_paintTillMark_41, rX4_paintTillMark_44, rX4_paintTillMark_45, rX4_paintTillMark_48, rX4_paintTillMark_50, rX4_paintTillMark_53, rX4_paintTillMark_54, rX4_paintTillMark_55, rX4_paintTillMark_58, rX4_paintTillMark_59, rX4_paintTillMark_60, rX4_paintTillMark_63, rX4_paintTillMark_64, rX4_paintTillMark_67, rX4_paintTillMark_68, rX4_paintTillMark_71, pok.1, pok.2.1, pok.2.2.1.1, rf_some, true_and]
      rw [if_neg (by decide)]
  · refine ⟨I1, g2, by rw [if_neg hq]; exact st1, g1.wk (fun c z => by omega), fun K => ?_⟩
    rw [if_neg hq] at g3
    have fin : WP mX4_paintTillMark 34 [.ref 89, .ref b, .null] [.int 0] w (I, Q, J) K ↔ K none w (I1, Q, J) := by
      simp only [rX4_paintTillMark_0, rX4_paintTillMark_1, rX4_paintTillMark_4, rX4_paintTillMark_7, rX4_paintTillMark_8, rX4_paintTillMark_11, rX4_paintTillMark_12, rX4_paintTillMark_15, rX4_paintTillMark_16, rX4_paintTillMark_19, rX4_paintTillMark_20, rX4_paintTillMark_23, rX4_paintTillMark_26, rX4_paintTillMark_29, rX4_paintTillMark_30, rX4_paintTillMark_33, rX4_paintTillMark_34, rX4_paintTillMark_35, rX4_paintTillMark_36, rX4_paintTillMark_37, rX4_paintTillMark_38, rX4_paintTillMark_41, rX4_paintTillMark_44, rX4_paintTillMark_45, rX4_paintTillMark_48, rX4_paintTillMark_50, rX4_paintTillMark_53, rX4_paintTillMark_54, rX4_paintTillMark_55, rX4_paintTillMark_58, rX4_paintTillMark_59, rX4_paintTillMark_60, rX4_paintTillMark_63, rX4_paintTillMark_64, rX4_paintTillMark_67, rX4_paintTillMark_68, rX4_paintTillMark_71, o1, o2, rf_some, o6.1, true_and, r.1, if_true]
      rw [g3]
      simp only [tl_some, rX4_paintTillMark_0, rX4_paintTillMark_1, rX4_paintTillMark_4, rX4_paintTillMark_7, rX4_paintTillMark_8, rX4_paintTillMark_11, rX4_paintTillMark_12, rX4_paintTillMark_15, rX4_paintTillMark_16, rX4_paintTillMark_19, rX4_paintTillMark_20, rX4_paintTillMark_23, rX4_paintTillMark_26, rX4_paintTillMark_29, rX4_paintTillMark_30, rX4_paintTillMark_33, rX4_paintTillMark_34, rX4_paintTillMark_35, rX4_paintTillMark_36, rX4_paintTillMark_37, rX4_paintTillMark_38, rX4_paintTillMark_41, rX4_paintTillMark_44, rX4_paintTillMark_45, rX4_paintTillMark_48, rX4_paintTillMark_50, rX4_paintTillMark_53, rX4_paintTillMark_54, rX4_paintTillMark_55, rX4_paintTillMark_58, rX4_paintTillMark_59, rX4_paintTillMark_60, rX4_paintTillMark_63, rX4_paintTillMark_64, rX4_paintTillMark_67, rX4_paintTillMark_68, rX4_paintTillMark_71, if_true]
    rw [← fin]
    by_cases hl1 : l.length = 1
    · have sg : ∀ {K : Option Value → WS → HS → Prop}, WP mX5_signAt 0 [.ref (b + 1), .int 0] [] w (I, Q, J) K ↔ K (some (.int (l.getD 0 0))) w (I, Q, J) := by
        intro K
        have := c_signAt (K := K) (J := J) (i := 0) o6 r h30 (by omega)
        rw [nI_0, if_pos (by omega)] at this
        exact this
      have hne : ¬ l.getD 0 0 = nI (64 + S.2) := by
        intro z
        apply hq
        match l, hl1, z with
        | [x], _, z => exact congrArg (fun y => [y]) z
      simp only [rX4_paintTillMark_0, rX4_paintTillMark_1, rX4_paintTillMark_4, rX4_paintTillMark_7, rX4_paintTillMark_8, rX4_paintTillMark_11, rX4_paintTillMark_12, rX4_paintTillMark_15, rX4_paintTillMark_16, rX4_paintTillMark_19, rX4_paintTillMark_20, rX4_paintTillMark_23, rX4_paintTillMark_26, rX4_paintTillMark_29, rX4_paintTillMark_30, rX4_paintTillMark_33, o1, o2, rf_some, o6.1, true_and, r.1, sg, tl_some, pok.1, pok.2.1, pok.2.2.1.1, st.2.1, hmk]
      rw [if_neg (show ¬ ¬ nI l.length = 1 from fun z => z (by rw [hl1]; rfl)), if_pos hne]
    · simp only [rX4_paintTillMark_0, rX4_paintTillMark_1, rX4_paintTillMark_4, rX4_paintTillMark_7, rX4_paintTillMark_8, rX4_paintTillMark_11, rX4_paintTillMark_12, rX4_paintTillMark_15, rX4_paintTillMark_16, rX4_paintTillMark_19, rX4_paintTillMark_20, rX4_paintTillMark_23, rX4_paintTillMark_26, rX4_paintTillMark_29, rX4_paintTillMark_30, rX4_paintTillMark_33, o1, o2, rf_some, o6.1, true_and, r.1]
      rw [if_pos (show ¬ nI l.length = 1 from fun z => hl1 (nI_inj (by omega) (by decide) z))]
theorem c_paint_loop (pok : pnOK w Q) (ok : lnOK w Q b) (hb : b + 6 < 76) (h30 : l.length ≤ 30) (hW : wdV W) : ∀ n i P t c (I : Nat → Nat → Int32) (v2 : Value), l.length ≤ n + i → i ≤ l.length → rowIs I (b + 1) (b + 2) l → wdIs I 76 78 W → c.length = i → ptIs I b c → stIs I 90 91 (P, 0) → stV (P, 0) → I 89 1 = mkI t → t ≤ 26 → ∃ (I' : Nat → Nat → Int32) (v' : Value), ptIs I' b (paintL W l n i P t c).1 ∧ stIs I' 90 91 ((paintL W l n i P t c).2.1, 0) ∧ I' 89 1 = mkI (paintL W l n i P t c).2.2 ∧ Fr (fun c => c = 89 ∨ c = 90 ∨ c = 91 ∨ c = b + 3 ∨ c = b + 4) I I' ∧ ∀ K, (WP mX4_paintLine 25 [.ref 89, .ref b, .ref 76, v2, .int (nI i)] [] w (I, Q, J) K ↔ WP mX4_paintLine 59 [.ref 89, .ref b, .ref 76, v', .int (nI l.length)] [] w (I', Q, J) K) := by
  obtain ⟨o1, o2, o3, o4, o5, o6, o7, o8, o9⟩ := id ok
  intro n
  induction n with
  | zero =>
    intro i P t c I v2 hn hi r rw0 hc pt st hP hm ht
    obtain rfl : i = l.length := by omega
    refine ⟨I, v2, pt, st, hm, Fr.rf, fun K => ?_⟩
    rw [rX4_paintLine_25]
    simp only [rX4_paintLine_27, rX4_paintLine_28, rX4_paintLine_31, rX4_paintLine_34, o1, o2, rf_some, o6.1, true_and, r.1]
    rw [if_pos (nI_le (Nat.le_refl _) (by omega))]
  | succ n ih =>
    intro i P t c I v2 hn hi r rw0 hc pt st hP hm ht
    by_cases hl : i < l.length
    · obtain ⟨I1, ⟨g1, g2, g3, g4⟩, g5⟩ := c_paintFrom (J := J) pok ok (by omega) r h30 hl hW rw0 hb hc pt st hP hm ht
      obtain ⟨s1, s2, s3, s4⟩ := stepP_ok (W := W) (t := t) hl hP ht
      have hfr : ∀ z, z ≠ 89 → z ≠ 90 → z ≠ 91 → z ≠ b + 3 → z ≠ b + 4 → I1 z = I z := fun z q1 q2 q3 q4 q5 => g4 z (by omega)
      obtain ⟨I', v', f1, f2, f3, f4, f5⟩ := ih (stepP W l i P t).1 (stepP W l i P t).2.2.1 (stepP W l i P t).2.2.2 (c ++ List.replicate ((stepP W l i P t).1 - i) ((stepP W l i P t).2.1, mdI (topP P))) I1 (.int (nI (stepP W l i P t).1)) (by omega) s2 (r.fr (hfr _ (by omega) (by omega) (by omega) (by omega) (by omega)) (hfr _ (by omega) (by omega) (by omega) (by omega) (by omega))) (rw0.fr hW.1 (hfr _ (by omega) (by omega) (by omega) (by omega) (by omega)) (fun z z1 z2 => hfr z (by omega) (by omega) (by omega) (by omega) (by omega))) (by simp; omega) g1 g2 s3 g3 s4
      have ep : paintL W l (n + 1) i P t c = paintL W l n (stepP W l i P t).1 (stepP W l i P t).2.2.1 (stepP W l i P t).2.2.2 (c ++ List.replicate ((stepP W l i P t).1 - i) ((stepP W l i P t).2.1, mdI (topP P))) := by rw [paintL, if_pos hl]
      rw [ep]
      refine ⟨I', v', f1, f2, f3, Fr.tr g4 f4 (fun c z => z) (fun c z => z), fun K => ?_⟩
      rw [rX4_paintLine_25]
      have e1 : (if nI (i + 1) < nI (stepP W l i P t).1 then nI (stepP W l i P t).1 else nI (i + 1)) = nI (stepP W l i P t).1 := by
        by_cases q : i + 1 < (stepP W l i P t).1
        · rw [if_pos (nI_lt q (by omega))]
        · rw [if_neg (nI_nlt (by omega) (by omega)), show i + 1 = (stepP W l i P t).1 by omega]
      simp only [rX4_paintLine_27, rX4_paintLine_28, rX4_paintLine_31, rX4_paintLine_34, rX4_paintLine_37, rX4_paintLine_39, rX4_paintLine_40, rX4_paintLine_41, rX4_paintLine_42, rX4_paintLine_43, rX4_paintLine_45, rX4_paintLine_46, rX4_paintLine_49, rX4_paintLine_52, rX4_paintLine_53, rX4_paintLine_54, rX4_paintLine_56, o1, o2, rf_some, o6.1, true_and, r.1, pok.1, pok.2.1, pok.2.2.1.1, nI_1]
      rw [if_neg (nI_ge hl (by omega)), g5]
      simp only [tl_some, rX4_paintLine_27, rX4_paintLine_28, rX4_paintLine_31, rX4_paintLine_34, rX4_paintLine_37, rX4_paintLine_39, rX4_paintLine_40, rX4_paintLine_41, rX4_paintLine_42, rX4_paintLine_43, rX4_paintLine_45, rX4_paintLine_46, rX4_paintLine_49, rX4_paintLine_52, rX4_paintLine_53, rX4_paintLine_54, rX4_paintLine_56, e1]
      exact f5 K
    · obtain rfl : i = l.length := by omega
      have ep : paintL W l (n + 1) l.length P t c = (c, P, t) := by rw [paintL, if_neg hl]
      rw [ep]
      refine ⟨I, v2, pt, st, hm, Fr.rf, fun K => ?_⟩
      rw [rX4_paintLine_25]
      simp only [rX4_paintLine_27, rX4_paintLine_28, rX4_paintLine_31, rX4_paintLine_34, o1, o2, rf_some, o6.1, true_and, r.1]
      rw [if_pos (nI_le (Nat.le_refl _) (by omega))]
theorem stV_cut {P : List Nat} {m : Nat} (h : stV (P, m)) : stV (cutP P, m) := by
  have : ∀ n i, 1 ≤ i → stV (cutF n P i, m) := by
    intro n
    induction n with
    | zero => intro i hi; exact h
    | succ n ih =>
      intro i hi
      simp only [cutF]
      split
      · split
        · exact stV_take h hi
        · exact ih (i + 1) (by omega)
      · exact h
  exact this 7 1 (by decide)
theorem stV_mk {P : List Nat} {m m' : Nat} (h : stV (P, m)) (hm : m' ≤ 26) : stV (P, m') := ⟨h.1, h.2.1, h.2.2.1, h.2.2.2.1, hm⟩
theorem lineP_ok {W : List (List Int32)} {l : List Int32} {S : List Nat × Nat} (hS : stV S) : (lineP W l S).1.length = l.length ∧ stV (lineP W l S).2 := by
  unfold lineP
  split
  · refine ⟨by simp, ?_⟩
    dsimp only
    split
    · exact stV_mk (P := S.1) (m := S.2) hS (by decide)
    · exact hS
  · obtain ⟨h1, h2, h3⟩ := paintL_ok (W := W) (l := l) l.length 0 S.1 0 [] (stV_mk (P := S.1) (m := S.2) hS (by decide)) (by decide) rfl (Nat.zero_le _) (by omega)
    exact ⟨h1, stV_mk (stV_cut h2) h3⟩
theorem c_paintLine (pok : pnOK w Q) (ok : lnOK w Q b) (hb : b + 6 < 76) (r : rowIs I (b + 1) (b + 2) l) (h30 : l.length ≤ 30) (hW : wdV W) (rw0 : wdIs I 76 78 W) {S : List Nat × Nat} (st : stIs I 90 91 S) (hS : stV S) : ∃ I', ptIs I' b (lineP W l S).1 ∧ stIs I' 90 91 (lineP W l S).2 ∧ Fr (fun c => c = 89 ∨ c = 90 ∨ c = 91 ∨ c = b + 3 ∨ c = b + 4) I I' ∧ ∀ K, (WP mX4_paintLine 0 [.ref 89, .ref b, .ref 76, .null, .null] [] w (I, Q, J) K ↔ K none w (I', Q, J)) := by
  obtain ⟨o1, o2, o3, o4, o5, o6, o7, o8, o9⟩ := id ok
  by_cases h0 : S.2 = 0
  · obtain ⟨P, m⟩ := S
    dsimp only at h0
    subst h0
    have e0 : ∀ z, z ≠ 89 → u2 I 89 1 (-1) z = I z := fun z q => Fr_u2 z q
    obtain ⟨I1, v', g1, g2, g3, g4, g5⟩ := c_paint_loop (J := J) pok ok hb h30 hW l.length 0 P 0 [] (u2 I 89 1 (-1)) .null (by omega) (Nat.zero_le _) (r.fr (e0 _ (by omega)) (e0 _ (by omega))) (rw0.fr hW.1 (e0 _ (by omega)) (fun z z1 z2 => e0 z (by omega))) rfl (fun j hj => by simp at hj) (st.fr (e0 _ (by omega)) (e0 _ (by omega))) hS u2_same (by decide)
    obtain ⟨k1, k2, k3⟩ := paintL_ok (W := W) (l := l) l.length 0 P 0 [] hS (by decide) rfl (Nat.zero_le _) (by omega)
    have e1 : ∀ z, z ≠ 90 → u2 I1 90 2 (mkI (paintL W l l.length 0 P 0 []).2.2) z = I1 z := fun z q => Fr_u2 z q
    have st2 : stIs (u2 I1 90 2 (mkI (paintL W l l.length 0 P 0 []).2.2)) 90 91 ((paintL W l l.length 0 P 0 []).2.1, (paintL W l l.length 0 P 0 []).2.2) := ⟨by rw [u2_ne (Or.inr (by decide))]; exact g2.1, u2_same, fun j hj => by rw [u2_ne (Or.inl (by decide))]; exact g2.2.2 j hj⟩
    obtain ⟨I', f1, f2, f3⟩ := c_stCut (J := J) pok.2.2.1 (stV_mk k2 k3) st2
    have el : lineP W l (P, 0) = ((paintL W l l.length 0 P 0 []).1, (cutP (paintL W l l.length 0 P 0 []).2.1, (paintL W l l.length 0 P 0 []).2.2)) := by
      unfold lineP; rw [if_neg (by simp)]
    rw [el]
    refine ⟨I', g1.fr ((f2 _ (by omega)).trans (e1 _ (by omega))) ((f2 _ (by omega)).trans (e1 _ (by omega))), f1, Fr.tr (Fr.tr (S := fun c => c = 89 ∨ c = 90 ∨ c = 91 ∨ c = b + 3 ∨ c = b + 4) (Fr.tr (S := fun c => c = 89 ∨ c = 90 ∨ c = 91 ∨ c = b + 3 ∨ c = b + 4) Fr_u2 g4 (fun c z => Or.inl z) (fun c z => z)) Fr_u2 (fun c z => z) (fun c z => by omega)) f2 (fun c z => z) (fun c z => by omega), fun K => ?_⟩
    have hst := st.2.1
    simp only [rX4_paintLine_0, rX4_paintLine_1, rX4_paintLine_4, rX4_paintLine_7, rX4_paintLine_8, rX4_paintLine_11, rX4_paintLine_12, rX4_paintLine_13, rX4_paintLine_16, rX4_paintLine_17, rX4_paintLine_18, rX4_paintLine_19, rX4_paintLine_22, rX4_paintLine_23, pok.1, pok.2.1, pok.2.2.1.1, rf_some, true_and, hst]
    rw [if_pos (show mkI (P, 0).2 = -1 from rfl)]
    have := g5 K
    rw [nI_0] at this
    rw [this]
    simp only [rX4_paintLine_59, rX4_paintLine_60, rX4_paintLine_63, rX4_paintLine_64, rX4_paintLine_67, rX4_paintLine_70, rX4_paintLine_71, rX4_paintLine_74, rX4_paintLine_77, pok.1, pok.2.1, pok.2.2.1.1, rf_some, true_and, g3]
    rw [f3]
    simp only [tl_none, rX4_paintLine_59, rX4_paintLine_60, rX4_paintLine_63, rX4_paintLine_64, rX4_paintLine_67, rX4_paintLine_70, rX4_paintLine_71, rX4_paintLine_74, rX4_paintLine_77]
  · obtain ⟨I', g1, g2, g3, g4⟩ := c_till (J := J) pok ok hb r h30 st hS h0
    have el : lineP W l S = (List.replicate l.length ((if isMk l S.2 then 7 else 4), 1), (S.1, if isMk l S.2 then 0 else S.2)) := by
      unfold lineP; rw [if_pos h0]
    rw [el]
    refine ⟨I', g1, g2, g3, fun K => ?_⟩
    simp only [rX4_paintLine_0, rX4_paintLine_1, rX4_paintLine_4, rX4_paintLine_7, rX4_paintLine_8, rX4_paintLine_11, rX4_paintLine_12, rX4_paintLine_13, rX4_paintLine_16, pok.1, pok.2.1, pok.2.2.1.1, rf_some, true_and, st.2.1]
    rw [if_neg (fun z => h0 (mkI_inj hS.2.2.2.2 (by decide) (z.trans rfl))), g4]
    simp only [tl_none, rX4_paintLine_0, rX4_paintLine_1, rX4_paintLine_4, rX4_paintLine_7, rX4_paintLine_8, rX4_paintLine_11, rX4_paintLine_12, rX4_paintLine_13, rX4_paintLine_16]
end PN2
