/-! ===== painting: what the document says, step by step; the class's painter ===== -/
abbrev isL (c : Int32) : Prop := 97 ≤ c ∧ c ≤ 122
abbrev isF (c : Int32) : Prop := 48 ≤ c ∧ c ≤ 57
abbrev isC (c : Int32) : Prop := 65 ≤ c ∧ c ≤ 90
def runE (f : Int32 → Bool) (l : List Int32) : Nat → Nat → Nat
  | 0, i => i
  | n + 1, i => if f (l.getD i 0) then runE f l n (i + 1) else i
theorem runE_le (f : Int32 → Bool) (l : List Int32) : ∀ n i, i ≤ runE f l n i ∧ runE f l n i ≤ n + i
  | 0, i => ⟨Nat.le_refl _, by simp [runE]⟩
  | n + 1, i => by
    have := runE_le f l n (i + 1)
    simp only [runE]
    split <;> omega
def remC (P : List Nat) (c : Int32) : Int32 := if c = 91 then (if P.length < 6 then 5 else 6) else 5
def remP (P : List Nat) (c : Int32) : List Nat := if c = 91 then pushP P 3 else if c = 93 then P.dropLast else P
def strC (P : List Nat) (c : Int32) : Int32 := if c = 123 then (if P.length < 6 then 7 else 6) else 4
def strP (P : List Nat) (c : Int32) : List Nat := if c = 123 then pushP P 0 else if c = opn (topP P) then P.dropLast else P
abbrev lies (P : List Nat) : Prop := 2 ≤ P.length ∧ (P.getD (P.length - 2) 0 = 1 ∨ P.getD (P.length - 2) 0 = 2)
def codC (P : List Nat) (c : Int32) : Int32 := if c = 34 ∨ c = 39 then (if P.length < 6 then 4 else 6) else if c = 91 then (if P.length < 6 then 5 else 6) else if c = 125 then (if lies P then 7 else 6) else 0
def codP (P : List Nat) (c : Int32) : List Nat := if c = 34 then pushP P 1 else if c = 39 then pushP P 2 else if c = 91 then pushP P 3 else if c = 125 then (if lies P then P.dropLast else P) else P
/-- one step of painting: where the next one begins, the colour, the pile, the mark told -/
def stepP (W : List (List Int32)) (l : List Int32) (i : Nat) (P : List Nat) (t : Nat) : Nat × Int32 × List Nat × Nat :=
  if topP P = 3 then (i + 1, remC P (l.getD i 0), remP P (l.getD i 0), t)
  else if topP P = 1 ∨ topP P = 2 then (if l.getD i 0 = 92 ∧ i + 1 < l.length then (i + 2, 7, P, t) else (i + 1, strC P (l.getD i 0), strP P (l.getD i 0), t))
  else if isL (l.getD i 0) then (runE (fun c => decide (isL c)) l (l.length - (i + 1)) (i + 1), (if hasW W ((l.drop i).take (runE (fun c => decide (isL c)) l (l.length - (i + 1)) (i + 1) - i)) W.length 0 then 2 else 1), P, t)
  else if isF (l.getD i 0) then (runE (fun c => decide (isF c)) l (l.length - (i + 1)) (i + 1), 3, P, t)
  else if l.getD i 0 = 35 then (l.length, 5, P, t)
  else if (l.getD i 0 = 60 ∧ i + 1 < l.length ∧ isC (l.getD (i + 1) 0)) ∧ P.length = 1 ∧ t = 0 then (i + 2, 7, P, (l.getD (i + 1) 0).toNatClampNeg - 64)
  else (i + 1, codC P (l.getD i 0), codP P (l.getD i 0), t)
theorem pushP_len {P : List Nat} {x : Nat} (h : P.length ≤ 6) : P.length ≤ (pushP P x).length ∧ (pushP P x).length ≤ 6 := by
  unfold pushP; split
  · simp; omega
  · omega
theorem stV_push {P : List Nat} {m x : Nat} (h : stV (P, m)) (hx : x < 4) : stV (pushP P x, m) := by
  obtain ⟨h1, h2, h3, h4, h5⟩ := h
  dsimp only at h1 h2 h3 h4 h5
  have hl := pushP_len (x := x) h2
  refine ⟨by dsimp only; omega, hl.2, fun j hj => ?_, ?_, h5⟩
  · dsimp only at hj ⊢
    unfold pushP at hj ⊢
    split at hj
    · next q =>
      rw [if_pos q]
      by_cases e : j < P.length
      · simp only [List.getD_eq_getElem?_getD]; rw [List.getElem?_append_left e, ← List.getD_eq_getElem?_getD]; exact h3 j e
      · have : j = P.length := by simp at hj; omega
        subst this; simp; exact hx
    · next q => rw [if_neg q]; exact h3 j hj
  · dsimp only
    unfold pushP
    split
    · simp only [List.getD_eq_getElem?_getD]; rw [List.getElem?_append_left (by omega), ← List.getD_eq_getElem?_getD]; exact h4
    · exact h4
theorem stV_take {P : List Nat} {m n : Nat} (h : stV (P, m)) (hn : 1 ≤ n) : stV (P.take n, m) := by
  obtain ⟨h1, h2, h3, h4, h5⟩ := h
  dsimp only at h1 h2 h3 h4 h5
  refine ⟨by simp; omega, by simp; omega, fun j hj => ?_, ?_, h5⟩
  · have hj : j < n ∧ j < P.length := by simp at hj; omega
    show (P.take n).getD j 0 < 4
    simp only [List.getD_eq_getElem?_getD, List.getElem?_take, hj.1, if_true]
    rw [← List.getD_eq_getElem?_getD]; exact h3 j hj.2
  · show (P.take n).getD 0 0 = 0
    simp only [List.getD_eq_getElem?_getD, List.getElem?_take, show 0 < n by omega, if_true]
    rw [← List.getD_eq_getElem?_getD]; exact h4
theorem stV_drop {P : List Nat} {m : Nat} (h : stV (P, m)) (h2 : 2 ≤ P.length) : stV (P.dropLast, m) := by
  rw [List.dropLast_eq_take]
  exact stV_take h (by omega)
theorem top_2 {P : List Nat} {m : Nat} (h : stV (P, m)) (ht : topP P ≠ 0) : 2 ≤ P.length := by
  have h1 := h.1
  have h4 : P.getD 0 0 = 0 := h.2.2.2.1
  dsimp only at h1
  rcases Nat.lt_or_ge 1 P.length with q | q
  · exact q
  · exfalso; apply ht; unfold topP; rw [show P.length - 1 = 0 by omega]; exact h4
theorem top_lt {P : List Nat} {m : Nat} (h : stV (P, m)) : topP P < 4 := by
  have h1 := h.1
  dsimp only at h1
  exact h.2.2.1 (P.length - 1) (by dsimp only; omega)
theorem capI {c : Int32} (h : isC c) : mkI (c.toNatClampNeg - 64) = c ∧ 1 ≤ c.toNatClampNeg - 64 ∧ c.toNatClampNeg - 64 ≤ 26 := by
  have h0 : ¬ c < 0 := by
    have := h.1
    rw [Int32.lt_iff_toInt_lt, Int32.le_iff_toInt_le] at *
    have e : (65 : Int32).toInt = 65 := by decide
    have e0 : (0 : Int32).toInt = 0 := by decide
    omega
  obtain ⟨j, hj, rfl⟩ := nI_of h0
  have h1 : 65 ≤ j := (nI_leI (by decide) hj).mp h.1
  have h2 : j ≤ 90 := (nI_leI hj (by decide)).mp h.2
  rw [nI_clamp hj]
  refine ⟨?_, by omega, by omega⟩
  unfold mkI
  rw [if_neg (by omega)]
  congr 1
  omega
/-- the step goes on, and keeps the state's shape -/
theorem stepP_ok {W : List (List Int32)} {l : List Int32} {i : Nat} {P : List Nat} {t : Nat} (hi : i < l.length) (hP : stV (P, 0)) (ht : t ≤ 26) : i < (stepP W l i P t).1 ∧ (stepP W l i P t).1 ≤ l.length ∧ stV ((stepP W l i P t).2.2.1, 0) ∧ (stepP W l i P t).2.2.2 ≤ 26 := by
  unfold stepP
  split
  · next h3 =>
    refine ⟨by simp, by simp; omega, ?_, ht⟩
    show stV (remP P _, 0)
    unfold remP
    split
    · exact stV_push hP (by decide)
    · split
      · exact stV_drop hP (top_2 hP (by omega))
      · exact hP
  · split
    · next h3 h12 =>
      split
      · next q => exact ⟨by simp, by simp; omega, hP, ht⟩
      · refine ⟨by simp, by simp; omega, ?_, ht⟩
        show stV (strP P _, 0)
        unfold strP
        split
        · exact stV_push hP (by decide)
        · split
          · exact stV_drop hP (top_2 hP (by omega))
          · exact hP
    · split
      · have := runE_le (fun c => decide (isL c)) l (l.length - (i + 1)) (i + 1)
        exact ⟨by simp only []; omega, by simp only []; omega, hP, ht⟩
      · split
        · have := runE_le (fun c => decide (isF c)) l (l.length - (i + 1)) (i + 1)
          exact ⟨by simp only []; omega, by simp only []; omega, hP, ht⟩
        · split
          · exact ⟨hi, Nat.le_refl _, hP, ht⟩
          · split
            · next q => exact ⟨by simp, by simp; omega, hP, (capI q.1.2.2).2.2⟩
            · refine ⟨by simp, by simp; omega, ?_, ht⟩
              show stV (codP P _, 0)
              unfold codP
              split
              · exact stV_push hP (by decide)
              · split
                · exact stV_push hP (by decide)
                · split
                  · exact stV_push hP (by decide)
                  · split
                    · split
                      · next q => exact stV_drop hP q.1
                      · exact hP
                    · exact hP
def pnOK (w : WS) (Q : Nat → Nat → Option Nat) : Prop := w.1 89 = (4, 0) ∧ Q 89 0 = some 90 ∧ stOK w Q 90 91 ∧ wdOK w Q 76 77 78
section PN
variable {w : WS} {I : Nat → Nat → Int32} {Q : Nat → Nat → Option Nat} {J : Nat → Nat → Int64} {K : Option Value → WS → HS → Prop} {b : Nat} {l : List Int32} {P : List Nat} {W : List (List Int32)} {t : Nat}
theorem c_takeR {c : Int32} (ok : pnOK w Q) (r : stIs I 90 91 (P, 0)) (hP : stV (P, 0)) (ht : topP P = 3) : ∃ I', stIs I' 90 91 (remP P c, 0) ∧ Fr (fun c => c = 90 ∨ c = 91) I I' ∧ ∀ K, (WP mX4_takeInRemark 0 [.ref 89, .int c] [] w (I, Q, J) K ↔ K (some (.int (remC P c))) w (I', Q, J)) := by
  obtain ⟨o1, o3, o4, o5⟩ := id ok
  by_cases h1 : c = 91
  · obtain ⟨I', g1, g2, g3⟩ := c_stOpen (J := J) (x := 3) (c := 91) o4 r hP rfl
    refine ⟨I', by rw [remP, if_pos h1]; exact g1, g2, fun K => ?_⟩
    rw [remC, if_pos h1]
    simp only [rX4_takeInRemark_0, rX4_takeInRemark_1, rX4_takeInRemark_3, rX4_takeInRemark_6, rX4_takeInRemark_7, rX4_takeInRemark_10, rX4_takeInRemark_12, rX4_takeInRemark_15, rX4_takeInRemark_18, rX4_takeInRemark_19, rX4_takeInRemark_22, rX4_takeInRemark_24, rX4_takeInRemark_25, rX4_takeInRemark_26, rX4_takeInRemark_28, rX4_takeInRemark_31, rX4_takeInRemark_32, rX4_takeInRemark_35, rX4_takeInRemark_38, rX4_takeInRemark_39, o1, o3, rf_some, o4.1, true_and]
    rw [if_neg (fun z => z h1), g3]
    by_cases h6 : P.length < 6
    · simp [h6, tl_some, rX4_takeInRemark_0, rX4_takeInRemark_1, rX4_takeInRemark_3, rX4_takeInRemark_6, rX4_takeInRemark_7, rX4_takeInRemark_10, rX4_takeInRemark_12, rX4_takeInRemark_15, rX4_takeInRemark_18, rX4_takeInRemark_19, rX4_takeInRemark_22, rX4_takeInRemark_24, rX4_takeInRemark_25, rX4_takeInRemark_26, rX4_takeInRemark_28, rX4_takeInRemark_31, rX4_takeInRemark_32, rX4_takeInRemark_35, rX4_takeInRemark_38, rX4_takeInRemark_39]
    · simp [h6, tl_some, rX4_takeInRemark_0, rX4_takeInRemark_1, rX4_takeInRemark_3, rX4_takeInRemark_6, rX4_takeInRemark_7, rX4_takeInRemark_10, rX4_takeInRemark_12, rX4_takeInRemark_15, rX4_takeInRemark_18, rX4_takeInRemark_19, rX4_takeInRemark_22, rX4_takeInRemark_24, rX4_takeInRemark_25, rX4_takeInRemark_26, rX4_takeInRemark_28, rX4_takeInRemark_31, rX4_takeInRemark_32, rX4_takeInRemark_35, rX4_takeInRemark_38, rX4_takeInRemark_39]
  · by_cases h2 : c = 93
    · obtain ⟨I', g1, g2, g3⟩ := c_stClose (J := J) o4 r hP (top_2 (P := P) hP (by omega))
      refine ⟨I', by rw [remP, if_neg h1, if_pos h2]; exact g1, g2, fun K => ?_⟩
      rw [remC, if_neg h1]
      simp only [rX4_takeInRemark_0, rX4_takeInRemark_1, rX4_takeInRemark_3, rX4_takeInRemark_6, rX4_takeInRemark_7, rX4_takeInRemark_10, rX4_takeInRemark_12, rX4_takeInRemark_15, rX4_takeInRemark_18, rX4_takeInRemark_19, rX4_takeInRemark_22, rX4_takeInRemark_24, rX4_takeInRemark_25, rX4_takeInRemark_26, rX4_takeInRemark_28, rX4_takeInRemark_31, rX4_takeInRemark_32, rX4_takeInRemark_35, rX4_takeInRemark_38, rX4_takeInRemark_39, o1, o3, rf_some, o4.1, true_and]
      rw [if_pos h1, if_neg (fun z => z h2), g3]
      simp only [tl_none, rX4_takeInRemark_0, rX4_takeInRemark_1, rX4_takeInRemark_3, rX4_takeInRemark_6, rX4_takeInRemark_7, rX4_takeInRemark_10, rX4_takeInRemark_12, rX4_takeInRemark_15, rX4_takeInRemark_18, rX4_takeInRemark_19, rX4_takeInRemark_22, rX4_takeInRemark_24, rX4_takeInRemark_25, rX4_takeInRemark_26, rX4_takeInRemark_28, rX4_takeInRemark_31, rX4_takeInRemark_32, rX4_takeInRemark_35, rX4_takeInRemark_38, rX4_takeInRemark_39]
    · refine ⟨I, by rw [remP, if_neg h1, if_neg h2]; exact r, Fr.rf, fun K => ?_⟩
      rw [remC, if_neg h1]
      simp only [rX4_takeInRemark_0, rX4_takeInRemark_1, rX4_takeInRemark_3, rX4_takeInRemark_6, rX4_takeInRemark_7, rX4_takeInRemark_10, rX4_takeInRemark_12, rX4_takeInRemark_15, rX4_takeInRemark_18, rX4_takeInRemark_19, rX4_takeInRemark_22, rX4_takeInRemark_24, rX4_takeInRemark_25, rX4_takeInRemark_26, rX4_takeInRemark_28, rX4_takeInRemark_31, rX4_takeInRemark_32, rX4_takeInRemark_35, rX4_takeInRemark_38, rX4_takeInRemark_39]
      rw [if_pos h1, if_pos h2]
theorem c_takeS {c : Int32} (ok : pnOK w Q) (r : stIs I 90 91 (P, 0)) (hP : stV (P, 0)) (ht : topP P = 1 ∨ topP P = 2) : ∃ I', stIs I' 90 91 (strP P c, 0) ∧ Fr (fun c => c = 90 ∨ c = 91) I I' ∧ ∀ K, (WP mX4_takeInString 0 [.ref 89, .int c] [] w (I, Q, J) K ↔ K (some (.int (strC P c))) w (I', Q, J)) := by
  obtain ⟨o1, o3, o4, o5⟩ := id ok
  have hq : ∀ {K : Option Value → WS → HS → Prop}, WP mX7_quote 0 [.ref 90, .null] [] w (I, Q, J) K ↔ K (some (.int (opn (topP P)))) w (I, Q, J) := by
    intro K
    rw [c_quote o4 r hP]
    rcases ht with e | e <;> (show K (some (.int (if topP P = 1 then 34 else if topP P = 2 then 39 else -1))) w (I, Q, J) ↔ _) <;> rw [e] <;> simp [opn]
  by_cases h1 : c = 123
  · obtain ⟨I', g1, g2, g3⟩ := c_stOpen (J := J) (x := 0) (c := 123) o4 r hP rfl
    refine ⟨I', by rw [strP, if_pos h1]; exact g1, g2, fun K => ?_⟩
    rw [strC, if_pos h1]
    simp only [rX4_takeInString_0, rX4_takeInString_1, rX4_takeInString_3, rX4_takeInString_6, rX4_takeInString_7, rX4_takeInString_10, rX4_takeInString_12, rX4_takeInString_15, rX4_takeInString_18, rX4_takeInString_20, rX4_takeInString_23, rX4_takeInString_25, rX4_takeInString_26, rX4_takeInString_27, rX4_takeInString_28, rX4_takeInString_31, rX4_takeInString_34, rX4_takeInString_37, rX4_takeInString_38, rX4_takeInString_41, rX4_takeInString_44, rX4_takeInString_45, o1, o3, rf_some, o4.1, true_and]
    rw [if_neg (fun z => z h1), g3]
    by_cases h6 : P.length < 6
    · simp [h6, tl_some, rX4_takeInString_0, rX4_takeInString_1, rX4_takeInString_3, rX4_takeInString_6, rX4_takeInString_7, rX4_takeInString_10, rX4_takeInString_12, rX4_takeInString_15, rX4_takeInString_18, rX4_takeInString_20, rX4_takeInString_23, rX4_takeInString_25, rX4_takeInString_26, rX4_takeInString_27, rX4_takeInString_28, rX4_takeInString_31, rX4_takeInString_34, rX4_takeInString_37, rX4_takeInString_38, rX4_takeInString_41, rX4_takeInString_44, rX4_takeInString_45]
    · simp [h6, tl_some, rX4_takeInString_0, rX4_takeInString_1, rX4_takeInString_3, rX4_takeInString_6, rX4_takeInString_7, rX4_takeInString_10, rX4_takeInString_12, rX4_takeInString_15, rX4_takeInString_18, rX4_takeInString_20, rX4_takeInString_23, rX4_takeInString_25, rX4_takeInString_26, rX4_takeInString_27, rX4_takeInString_28, rX4_takeInString_31, rX4_takeInString_34, rX4_takeInString_37, rX4_takeInString_38, rX4_takeInString_41, rX4_takeInString_44, rX4_takeInString_45]
  · by_cases h2 : c = opn (topP P)
    · obtain ⟨I', g1, g2, g3⟩ := c_stClose (J := J) o4 r hP (top_2 (P := P) hP (by omega))
      refine ⟨I', by rw [strP, if_neg h1, if_pos h2]; exact g1, g2, fun K => ?_⟩
      rw [strC, if_neg h1]
      simp only [rX4_takeInString_0, rX4_takeInString_1, rX4_takeInString_3, rX4_takeInString_6, rX4_takeInString_7, rX4_takeInString_10, rX4_takeInString_12, rX4_takeInString_15, rX4_takeInString_18, rX4_takeInString_20, rX4_takeInString_23, rX4_takeInString_25, rX4_takeInString_26, rX4_takeInString_27, rX4_takeInString_28, rX4_takeInString_31, rX4_takeInString_34, rX4_takeInString_37, rX4_takeInString_38, rX4_takeInString_41, rX4_takeInString_44, rX4_takeInString_45, o1, o3, rf_some, o4.1, true_and, hq, tl_some]
      rw [if_pos h1, if_neg (fun z => z h2), g3]
      simp only [tl_none, rX4_takeInString_0, rX4_takeInString_1, rX4_takeInString_3, rX4_takeInString_6, rX4_takeInString_7, rX4_takeInString_10, rX4_takeInString_12, rX4_takeInString_15, rX4_takeInString_18, rX4_takeInString_20, rX4_takeInString_23, rX4_takeInString_25, rX4_takeInString_26, rX4_takeInString_27, rX4_takeInString_28, rX4_takeInString_31, rX4_takeInString_34, rX4_takeInString_37, rX4_takeInString_38, rX4_takeInString_41, rX4_takeInString_44, rX4_takeInString_45]
    · refine ⟨I, by rw [strP, if_neg h1, if_neg h2]; exact r, Fr.rf, fun K => ?_⟩
      rw [strC, if_neg h1]
      simp only [rX4_takeInString_0, rX4_takeInString_1, rX4_takeInString_3, rX4_takeInString_6, rX4_takeInString_7, rX4_takeInString_10, rX4_takeInString_12, rX4_takeInString_15, rX4_takeInString_18, rX4_takeInString_20, rX4_takeInString_23, rX4_takeInString_25, rX4_takeInString_26, rX4_takeInString_27, rX4_takeInString_28, rX4_takeInString_31, rX4_takeInString_34, rX4_takeInString_37, rX4_takeInString_38, rX4_takeInString_41, rX4_takeInString_44, rX4_takeInString_45, o1, o3, rf_some, o4.1, true_and, hq, tl_some]
      rw [if_pos h1, if_pos h2]
theorem c_takeC {c : Int32} (ok : pnOK w Q) (r : stIs I 90 91 (P, 0)) (hP : stV (P, 0)) : ∃ I', stIs I' 90 91 (codP P c, 0) ∧ Fr (fun c => c = 90 ∨ c = 91) I I' ∧ ∀ K, (WP mX4_takeInCode 0 [.ref 89, .int c] [] w (I, Q, J) K ↔ K (some (.int (codC P c))) w (I', Q, J)) := by
  obtain ⟨o1, o3, o4, o5⟩ := id ok
  have ge : ∀ (x : Nat) (v n : Int32), c = opn x → ∃ I', stIs I' 90 91 (pushP P x, 0) ∧ Fr (fun c => c = 90 ∨ c = 91) I I' ∧ ∀ K, (WP mX7_open 0 [.ref 90, .int c] [] w (I, Q, J) K ↔ K (some (.int (if P.length < 6 then 1 else 0))) w (I', Q, J)) := by
    intro x v n hc
    exact c_stOpen (J := J) o4 r hP hc
  by_cases h1 : c = 34
  · obtain ⟨I', g1, g2, g3⟩ := ge 1 0 0 (by rw [h1]; rfl)
    refine ⟨I', by rw [codP, if_pos h1]; exact g1, g2, fun K => ?_⟩
    rw [codC, if_pos (Or.inl h1)]
    subst h1
    simp only [rX4_takeInCode_0, rX4_takeInCode_1_34, rX4_takeInCode_1_39, rX4_takeInCode_1_91, rX4_takeInCode_1_125, rX4_takeInCode_44, rX4_takeInCode_45, rX4_takeInCode_48, rX4_takeInCode_49, rX4_takeInCode_52, rX4_takeInCode_55, rX4_takeInCode_56, rX4_takeInCode_59, rX4_takeInCode_61, rX4_takeInCode_62, rX4_takeInCode_63, rX4_takeInCode_66, rX4_takeInCode_68, rX4_takeInCode_71, rX4_takeInCode_74, rX4_takeInCode_75, rX4_takeInCode_78, rX4_takeInCode_80, rX4_takeInCode_81, rX4_takeInCode_82, rX4_takeInCode_85, rX4_takeInCode_88, rX4_takeInCode_91, rX4_takeInCode_93, rX4_takeInCode_94, rX4_takeInCode_95, rX4_takeInCode_98, rX4_takeInCode_101, rX4_takeInCode_103, rX4_takeInCode_104, rX4_takeInCode_105, o1, o3, rf_some, o4.1, true_and, g3]
    by_cases h6 : P.length < 6
    · simp [h6, tl_some, rX4_takeInCode_0, rX4_takeInCode_1_34, rX4_takeInCode_1_39, rX4_takeInCode_1_91, rX4_takeInCode_1_125, rX4_takeInCode_44, rX4_takeInCode_45, rX4_takeInCode_48, rX4_takeInCode_49, rX4_takeInCode_52, rX4_takeInCode_55, rX4_takeInCode_56, rX4_takeInCode_59, rX4_takeInCode_61, rX4_takeInCode_62, rX4_takeInCode_63, rX4_takeInCode_66, rX4_takeInCode_68, rX4_takeInCode_71, rX4_takeInCode_74, rX4_takeInCode_75, rX4_takeInCode_78, rX4_takeInCode_80, rX4_takeInCode_81, rX4_takeInCode_82, rX4_takeInCode_85, rX4_takeInCode_88, rX4_takeInCode_91, rX4_takeInCode_93, rX4_takeInCode_94, rX4_takeInCode_95, rX4_takeInCode_98, rX4_takeInCode_101, rX4_takeInCode_103, rX4_takeInCode_104, rX4_takeInCode_105]
    · simp [h6, tl_some, rX4_takeInCode_0, rX4_takeInCode_1_34, rX4_takeInCode_1_39, rX4_takeInCode_1_91, rX4_takeInCode_1_125, rX4_takeInCode_44, rX4_takeInCode_45, rX4_takeInCode_48, rX4_takeInCode_49, rX4_takeInCode_52, rX4_takeInCode_55, rX4_takeInCode_56, rX4_takeInCode_59, rX4_takeInCode_61, rX4_takeInCode_62, rX4_takeInCode_63, rX4_takeInCode_66, rX4_takeInCode_68, rX4_takeInCode_71, rX4_takeInCode_74, rX4_takeInCode_75, rX4_takeInCode_78, rX4_takeInCode_80, rX4_takeInCode_81, rX4_takeInCode_82, rX4_takeInCode_85, rX4_takeInCode_88, rX4_takeInCode_91, rX4_takeInCode_93, rX4_takeInCode_94, rX4_takeInCode_95, rX4_takeInCode_98, rX4_takeInCode_101, rX4_takeInCode_103, rX4_takeInCode_104, rX4_takeInCode_105]
  · by_cases h2 : c = 39
    · obtain ⟨I', g1, g2, g3⟩ := ge 2 0 0 (by rw [h2]; rfl)
      refine ⟨I', by rw [codP, if_neg h1, if_pos h2]; exact g1, g2, fun K => ?_⟩
      rw [codC, if_pos (Or.inr h2)]
      subst h2
      simp only [rX4_takeInCode_0, rX4_takeInCode_1_34, rX4_takeInCode_1_39, rX4_takeInCode_1_91, rX4_takeInCode_1_125, rX4_takeInCode_44, rX4_takeInCode_45, rX4_takeInCode_48, rX4_takeInCode_49, rX4_takeInCode_52, rX4_takeInCode_55, rX4_takeInCode_56, rX4_takeInCode_59, rX4_takeInCode_61, rX4_takeInCode_62, rX4_takeInCode_63, rX4_takeInCode_66, rX4_takeInCode_68, rX4_takeInCode_71, rX4_takeInCode_74, rX4_takeInCode_75, rX4_takeInCode_78, rX4_takeInCode_80, rX4_takeInCode_81, rX4_takeInCode_82, rX4_takeInCode_85, rX4_takeInCode_88, rX4_takeInCode_91, rX4_takeInCode_93, rX4_takeInCode_94, rX4_takeInCode_95, rX4_takeInCode_98, rX4_takeInCode_101, rX4_takeInCode_103, rX4_takeInCode_104, rX4_takeInCode_105, o1, o3, rf_some, o4.1, true_and, g3]
      by_cases h6 : P.length < 6
      · simp [h6, tl_some, rX4_takeInCode_0, rX4_takeInCode_1_34, rX4_takeInCode_1_39, rX4_takeInCode_1_91, rX4_takeInCode_1_125, rX4_takeInCode_44, rX4_takeInCode_45, rX4_takeInCode_48, rX4_takeInCode_49, rX4_takeInCode_52, rX4_takeInCode_55, rX4_takeInCode_56, rX4_takeInCode_59, rX4_takeInCode_61, rX4_takeInCode_62, rX4_takeInCode_63, rX4_takeInCode_66, rX4_takeInCode_68, rX4_takeInCode_71, rX4_takeInCode_74, rX4_takeInCode_75, rX4_takeInCode_78, rX4_takeInCode_80, rX4_takeInCode_81, rX4_takeInCode_82, rX4_takeInCode_85, rX4_takeInCode_88, rX4_takeInCode_91, rX4_takeInCode_93, rX4_takeInCode_94, rX4_takeInCode_95, rX4_takeInCode_98, rX4_takeInCode_101, rX4_takeInCode_103, rX4_takeInCode_104, rX4_takeInCode_105]
      · simp [h6, tl_some, rX4_takeInCode_0, rX4_takeInCode_1_34, rX4_takeInCode_1_39, rX4_takeInCode_1_91, rX4_takeInCode_1_125, rX4_takeInCode_44, rX4_takeInCode_45, rX4_takeInCode_48, rX4_takeInCode_49, rX4_takeInCode_52, rX4_takeInCode_55, rX4_takeInCode_56, rX4_takeInCode_59, rX4_takeInCode_61, rX4_takeInCode_62, rX4_takeInCode_63, rX4_takeInCode_66, rX4_takeInCode_68, rX4_takeInCode_71, rX4_takeInCode_74, rX4_takeInCode_75, rX4_takeInCode_78, rX4_takeInCode_80, rX4_takeInCode_81, rX4_takeInCode_82, rX4_takeInCode_85, rX4_takeInCode_88, rX4_takeInCode_91, rX4_takeInCode_93, rX4_takeInCode_94, rX4_takeInCode_95, rX4_takeInCode_98, rX4_takeInCode_101, rX4_takeInCode_103, rX4_takeInCode_104, rX4_takeInCode_105]
    · by_cases h3 : c = 91
      · obtain ⟨I', g1, g2, g3⟩ := ge 3 0 0 (by rw [h3]; rfl)
        refine ⟨I', by rw [codP, if_neg h1, if_neg h2, if_pos h3]; exact g1, g2, fun K => ?_⟩
        rw [codC, if_neg (by rintro (z | z); exact h1 z; exact h2 z), if_pos h3]
        subst h3
        simp only [rX4_takeInCode_0, rX4_takeInCode_1_34, rX4_takeInCode_1_39, rX4_takeInCode_1_91, rX4_takeInCode_1_125, rX4_takeInCode_44, rX4_takeInCode_45, rX4_takeInCode_48, rX4_takeInCode_49, rX4_takeInCode_52, rX4_takeInCode_55, rX4_takeInCode_56, rX4_takeInCode_59, rX4_takeInCode_61, rX4_takeInCode_62, rX4_takeInCode_63, rX4_takeInCode_66, rX4_takeInCode_68, rX4_takeInCode_71, rX4_takeInCode_74, rX4_takeInCode_75, rX4_takeInCode_78, rX4_takeInCode_80, rX4_takeInCode_81, rX4_takeInCode_82, rX4_takeInCode_85, rX4_takeInCode_88, rX4_takeInCode_91, rX4_takeInCode_93, rX4_takeInCode_94, rX4_takeInCode_95, rX4_takeInCode_98, rX4_takeInCode_101, rX4_takeInCode_103, rX4_takeInCode_104, rX4_takeInCode_105, o1, o3, rf_some, o4.1, true_and, g3]
        by_cases h6 : P.length < 6
        · simp [h6, tl_some, rX4_takeInCode_0, rX4_takeInCode_1_34, rX4_takeInCode_1_39, rX4_takeInCode_1_91, rX4_takeInCode_1_125, rX4_takeInCode_44, rX4_takeInCode_45, rX4_takeInCode_48, rX4_takeInCode_49, rX4_takeInCode_52, rX4_takeInCode_55, rX4_takeInCode_56, rX4_takeInCode_59, rX4_takeInCode_61, rX4_takeInCode_62, rX4_takeInCode_63, rX4_takeInCode_66, rX4_takeInCode_68, rX4_takeInCode_71, rX4_takeInCode_74, rX4_takeInCode_75, rX4_takeInCode_78, rX4_takeInCode_80, rX4_takeInCode_81, rX4_takeInCode_82, rX4_takeInCode_85, rX4_takeInCode_88, rX4_takeInCode_91, rX4_takeInCode_93, rX4_takeInCode_94, rX4_takeInCode_95, rX4_takeInCode_98, rX4_takeInCode_101, rX4_takeInCode_103, rX4_takeInCode_104, rX4_takeInCode_105]
        · simp [h6, tl_some, rX4_takeInCode_0, rX4_takeInCode_1_34, rX4_takeInCode_1_39, rX4_takeInCode_1_91, rX4_takeInCode_1_125, rX4_takeInCode_44, rX4_takeInCode_45, rX4_takeInCode_48, rX4_takeInCode_49, rX4_takeInCode_52, rX4_takeInCode_55, rX4_takeInCode_56, rX4_takeInCode_59, rX4_takeInCode_61, rX4_takeInCode_62, rX4_takeInCode_63, rX4_takeInCode_66, rX4_takeInCode_68, rX4_takeInCode_71, rX4_takeInCode_74, rX4_takeInCode_75, rX4_takeInCode_78, rX4_takeInCode_80, rX4_takeInCode_81, rX4_takeInCode_82, rX4_takeInCode_85, rX4_takeInCode_88, rX4_takeInCode_91, rX4_takeInCode_93, rX4_takeInCode_94, rX4_takeInCode_95, rX4_takeInCode_98, rX4_takeInCode_101, rX4_takeInCode_103, rX4_takeInCode_104, rX4_takeInCode_105]
      · by_cases h4 : c = 125
        · by_cases h5 : lies P
          · obtain ⟨I', g1, g2, g3⟩ := c_stClose (J := J) o4 r hP h5.1
            refine ⟨I', by rw [codP, if_neg h1, if_neg h2, if_neg h3, if_pos h4, if_pos h5]; exact g1, g2, fun K => ?_⟩
            rw [codC, if_neg (by rintro (z | z); exact h1 z; exact h2 z), if_neg h3, if_pos h4, if_pos h5]
            subst h4
            simp only [rX4_takeInCode_0, rX4_takeInCode_1_34, rX4_takeInCode_1_39, rX4_takeInCode_1_91, rX4_takeInCode_1_125, rX4_takeInCode_44, rX4_takeInCode_45, rX4_takeInCode_48, rX4_takeInCode_49, rX4_takeInCode_52, rX4_takeInCode_55, rX4_takeInCode_56, rX4_takeInCode_59, rX4_takeInCode_61, rX4_takeInCode_62, rX4_takeInCode_63, rX4_takeInCode_66, rX4_takeInCode_68, rX4_takeInCode_71, rX4_takeInCode_74, rX4_takeInCode_75, rX4_takeInCode_78, rX4_takeInCode_80, rX4_takeInCode_81, rX4_takeInCode_82, rX4_takeInCode_85, rX4_takeInCode_88, rX4_takeInCode_91, rX4_takeInCode_93, rX4_takeInCode_94, rX4_takeInCode_95, rX4_takeInCode_98, rX4_takeInCode_101, rX4_takeInCode_103, rX4_takeInCode_104, rX4_takeInCode_105, o1, o3, rf_some, o4.1, true_and]
            rw [c_liesInString o4 r hP, if_pos h5]
            simp only [tl_some, rX4_takeInCode_0, rX4_takeInCode_1_34, rX4_takeInCode_1_39, rX4_takeInCode_1_91, rX4_takeInCode_1_125, rX4_takeInCode_44, rX4_takeInCode_45, rX4_takeInCode_48, rX4_takeInCode_49, rX4_takeInCode_52, rX4_takeInCode_55, rX4_takeInCode_56, rX4_takeInCode_59, rX4_takeInCode_61, rX4_takeInCode_62, rX4_takeInCode_63, rX4_takeInCode_66, rX4_takeInCode_68, rX4_takeInCode_71, rX4_takeInCode_74, rX4_takeInCode_75, rX4_takeInCode_78, rX4_takeInCode_80, rX4_takeInCode_81, rX4_takeInCode_82, rX4_takeInCode_85, rX4_takeInCode_88, rX4_takeInCode_91, rX4_takeInCode_93, rX4_takeInCode_94, rX4_takeInCode_95, rX4_takeInCode_98, rX4_takeInCode_101, rX4_takeInCode_103, rX4_takeInCode_104, rX4_takeInCode_105, o1, o3, rf_some, o4.1, true_and]
            rw [if_pos (by decide), g3]
            simp only [tl_none, rX4_takeInCode_0, rX4_takeInCode_1_34, rX4_takeInCode_1_39, rX4_takeInCode_1_91, rX4_takeInCode_1_125, rX4_takeInCode_44, rX4_takeInCode_45, rX4_takeInCode_48, rX4_takeInCode_49, rX4_takeInCode_52, rX4_takeInCode_55, rX4_takeInCode_56, rX4_takeInCode_59, rX4_takeInCode_61, rX4_takeInCode_62, rX4_takeInCode_63, rX4_takeInCode_66, rX4_takeInCode_68, rX4_takeInCode_71, rX4_takeInCode_74, rX4_takeInCode_75, rX4_takeInCode_78, rX4_takeInCode_80, rX4_takeInCode_81, rX4_takeInCode_82, rX4_takeInCode_85, rX4_takeInCode_88, rX4_takeInCode_91, rX4_takeInCode_93, rX4_takeInCode_94, rX4_takeInCode_95, rX4_takeInCode_98, rX4_takeInCode_101, rX4_takeInCode_103, rX4_takeInCode_104, rX4_takeInCode_105]
          · refine ⟨I, by rw [codP, if_neg h1, if_neg h2, if_neg h3, if_pos h4, if_neg h5]; exact r, Fr.rf, fun K => ?_⟩
            rw [codC, if_neg (by rintro (z | z); exact h1 z; exact h2 z), if_neg h3, if_pos h4, if_neg h5]
            subst h4
            simp only [rX4_takeInCode_0, rX4_takeInCode_1_34, rX4_takeInCode_1_39, rX4_takeInCode_1_91, rX4_takeInCode_1_125, rX4_takeInCode_44, rX4_takeInCode_45, rX4_takeInCode_48, rX4_takeInCode_49, rX4_takeInCode_52, rX4_takeInCode_55, rX4_takeInCode_56, rX4_takeInCode_59, rX4_takeInCode_61, rX4_takeInCode_62, rX4_takeInCode_63, rX4_takeInCode_66, rX4_takeInCode_68, rX4_takeInCode_71, rX4_takeInCode_74, rX4_takeInCode_75, rX4_takeInCode_78, rX4_takeInCode_80, rX4_takeInCode_81, rX4_takeInCode_82, rX4_takeInCode_85, rX4_takeInCode_88, rX4_takeInCode_91, rX4_takeInCode_93, rX4_takeInCode_94, rX4_takeInCode_95, rX4_takeInCode_98, rX4_takeInCode_101, rX4_takeInCode_103, rX4_takeInCode_104, rX4_takeInCode_105, o1, o3, rf_some, o4.1, true_and]
            rw [c_liesInString o4 r hP, if_neg h5]
            simp only [tl_some, rX4_takeInCode_0, rX4_takeInCode_1_34, rX4_takeInCode_1_39, rX4_takeInCode_1_91, rX4_takeInCode_1_125, rX4_takeInCode_44, rX4_takeInCode_45, rX4_takeInCode_48, rX4_takeInCode_49, rX4_takeInCode_52, rX4_takeInCode_55, rX4_takeInCode_56, rX4_takeInCode_59, rX4_takeInCode_61, rX4_takeInCode_62, rX4_takeInCode_63, rX4_takeInCode_66, rX4_takeInCode_68, rX4_takeInCode_71, rX4_takeInCode_74, rX4_takeInCode_75, rX4_takeInCode_78, rX4_takeInCode_80, rX4_takeInCode_81, rX4_takeInCode_82, rX4_takeInCode_85, rX4_takeInCode_88, rX4_takeInCode_91, rX4_takeInCode_93, rX4_takeInCode_94, rX4_takeInCode_95, rX4_takeInCode_98, rX4_takeInCode_101, rX4_takeInCode_103, rX4_takeInCode_104, rX4_takeInCode_105]
            rw [if_neg (by decide)]
        · refine ⟨I, by rw [codP, if_neg h1, if_neg h2, if_neg h3, if_neg h4]; exact r, Fr.rf, fun K => ?_⟩
          rw [codC, if_neg (by rintro (z | z); exact h1 z; exact h2 z), if_neg h3, if_neg h4]
          rw [rX4_takeInCode_0, rX4_takeInCode_1_d ⟨h1, h2, h3, h4⟩]
          simp only [rX4_takeInCode_0, rX4_takeInCode_1_34, rX4_takeInCode_1_39, rX4_takeInCode_1_91, rX4_takeInCode_1_125, rX4_takeInCode_44, rX4_takeInCode_45, rX4_takeInCode_48, rX4_takeInCode_49, rX4_takeInCode_52, rX4_takeInCode_55, rX4_takeInCode_56, rX4_takeInCode_59, rX4_takeInCode_61, rX4_takeInCode_62, rX4_takeInCode_63, rX4_takeInCode_66, rX4_takeInCode_68, rX4_takeInCode_71, rX4_takeInCode_74, rX4_takeInCode_75, rX4_takeInCode_78, rX4_takeInCode_80, rX4_takeInCode_81, rX4_takeInCode_82, rX4_takeInCode_85, rX4_takeInCode_88, rX4_takeInCode_91, rX4_takeInCode_93, rX4_takeInCode_94, rX4_takeInCode_95, rX4_takeInCode_98, rX4_takeInCode_101, rX4_takeInCode_103, rX4_takeInCode_104, rX4_takeInCode_105]
end PN
