/-! ===== what stands open ===== -/
def opn (k : Nat) : Int32 := if k = 0 then 123 else if k = 1 then 34 else if k = 2 then 39 else 91
def mkI (m : Nat) : Int32 := if m = 0 then -1 else nI (64 + m)
def topP (P : List Nat) : Nat := P.getD (P.length - 1) 0
def mdI (k : Nat) : Int32 := if k = 1 ∨ k = 2 then 1 else if k = 3 then 2 else 0
def stOK (w : WS) (Q : Nat → Nat → Option Nat) (a p : Nat) : Prop := w.1 a = (7, 0) ∧ Q a 0 = some p ∧ w.1 p = (20, 6) ∧ p ≠ 0 ∧ p ≠ a
def stIs (I : Nat → Nat → Int32) (a p : Nat) (S : List Nat × Nat) : Prop := I a 1 = nI S.1.length ∧ I a 2 = mkI S.2 ∧ ∀ j, j < S.1.length → I p j = opn (S.1.getD j 0)
def stV (S : List Nat × Nat) : Prop := 1 ≤ S.1.length ∧ S.1.length ≤ 6 ∧ (∀ j, j < S.1.length → S.1.getD j 0 < 4) ∧ S.1.getD 0 0 = 0 ∧ S.2 ≤ 26
theorem stIs.fr {I I' : Nat → Nat → Int32} {a p : Nat} {S : List Nat × Nat} (h : stIs I a p S) (ha : I' a = I a) (hs : I' p = I p) : stIs I' a p S := ⟨by rw [ha]; exact h.1, by rw [ha]; exact h.2.1, fun j hj => by rw [hs]; exact h.2.2 j hj⟩
theorem opn_inj {a b : Nat} (ha : a < 4) (hb : b < 4) (h : opn a = opn b) : a = b := by
  have : ∀ a, a < 4 → ∀ b, b < 4 → opn a = opn b → a = b := by decide
  exact this a ha b hb h
theorem mkI_inj {a b : Nat} (ha : a ≤ 26) (hb : b ≤ 26) (h : mkI a = mkI b) : a = b := by
  have : ∀ a, a < 27 → ∀ b, b < 27 → mkI a = mkI b → a = b := by decide
  exact this a (by omega) b (by omega) h
theorem lt4 {P : Nat → Prop} (h : ∀ a, a < 4 → P a) {a : Nat} (ha : a < 4) : P a := h a ha
section ST
variable {w : WS} {I : Nat → Nat → Int32} {Q : Nat → Nat → Option Nat} {J : Nat → Nat → Int64} {K : Option Value → WS → HS → Prop} {a p b q : Nat} {S T : List Nat × Nat} {h : HS}
theorem c_isQuote {c : Int32} : WP mX9_isQuote 0 [.int c] [] w h K ↔ K (some (.int (if c = 34 ∨ c = 39 then 1 else 0))) w h := by
  simp only [rX9_isQuote_0, rX9_isQuote_1, rX9_isQuote_3, rX9_isQuote_6, rX9_isQuote_7, rX9_isQuote_9, rX9_isQuote_12, rX9_isQuote_13, rX9_isQuote_16, rX9_isQuote_17]
  by_cases h1 : c = 34
  · simp [h1]
  · by_cases h2 : c = 39
    · simp [h2]
    · simp [h1, h2]
theorem c_rng {m : ME} {c lo hi : Int32} (hw : WP m 0 [.int c] [] w h K ↔ if c < lo then (0 = (0 : Int32) ∨ 0 = (1 : Int32)) ∧ K (some (.int 0)) w h else if hi < c then (0 = (0 : Int32) ∨ 0 = (1 : Int32)) ∧ K (some (.int 0)) w h else (1 = (0 : Int32) ∨ 1 = (1 : Int32)) ∧ K (some (.int 1)) w h) : WP m 0 [.int c] [] w h K ↔ K (some (.int (if lo ≤ c ∧ c ≤ hi then 1 else 0))) w h := by
  rw [hw]
  by_cases h1 : c < lo
  · rw [if_pos h1, if_neg (fun z => absurd z.1 (Int32.not_le.mpr h1))]; simp
  · by_cases h2 : hi < c
    · rw [if_neg h1, if_pos h2, if_neg (fun z => absurd z.2 (Int32.not_le.mpr h2))]; simp
    · rw [if_neg h1, if_neg h2, if_pos ⟨Int32.not_lt.mp h1, Int32.not_lt.mp h2⟩]; simp
theorem c_isLetter {c : Int32} : WP mX9_isLetter 0 [.int c] [] w h K ↔ K (some (.int (if 97 ≤ c ∧ c ≤ 122 then 1 else 0))) w h := c_rng (by simp only [rX9_isLetter_0, rX9_isLetter_1, rX9_isLetter_3, rX9_isLetter_6, rX9_isLetter_7, rX9_isLetter_9, rX9_isLetter_12, rX9_isLetter_13, rX9_isLetter_16, rX9_isLetter_17])
theorem c_isFigure {c : Int32} : WP mX9_isFigure 0 [.int c] [] w h K ↔ K (some (.int (if 48 ≤ c ∧ c ≤ 57 then 1 else 0))) w h := c_rng (by simp only [rX9_isFigure_0, rX9_isFigure_1, rX9_isFigure_3, rX9_isFigure_6, rX9_isFigure_7, rX9_isFigure_9, rX9_isFigure_12, rX9_isFigure_13, rX9_isFigure_16, rX9_isFigure_17])
theorem c_isCapital {c : Int32} : WP mX9_isCapital 0 [.int c] [] w h K ↔ K (some (.int (if 65 ≤ c ∧ c ≤ 90 then 1 else 0))) w h := c_rng (by simp only [rX9_isCapital_0, rX9_isCapital_1, rX9_isCapital_3, rX9_isCapital_6, rX9_isCapital_7, rX9_isCapital_9, rX9_isCapital_12, rX9_isCapital_13, rX9_isCapital_16, rX9_isCapital_17])
theorem c_isByte {c : Int32} : WP mX9_isByte 0 [.int c] [] w h K ↔ K (some (.int (if 32 ≤ c ∧ c ≤ 126 then 1 else 0))) w h := c_rng (by simp only [rX9_isByte_0, rX9_isByte_1, rX9_isByte_3, rX9_isByte_6, rX9_isByte_7, rX9_isByte_9, rX9_isByte_12, rX9_isByte_13, rX9_isByte_16, rX9_isByte_17])
theorem c_stBegin (ok : stOK w Q a p) : ∃ I', stIs I' a p ([0], 0) ∧ Fr (fun c => c = a ∨ c = p) I I' ∧ ∀ K, (WP mX7_begin 0 [.ref a] [] w (I, Q, J) K ↔ K none w (I', Q, J)) := by
  obtain ⟨o1, o2, o3, o4, o5⟩ := ok
  refine ⟨u2 (u2 (u2 I p 0 123) a 1 1) a 2 (-1), ⟨?_, ?_, fun j hj => ?_⟩, ?_, fun K => ?_⟩
  · rw [u2_ne (Or.inr (by decide)), u2_same]; rfl
  · rw [u2_same]; rfl
  · have : j = 0 := by simp at hj; omega
    subst this
    rw [u2_ne (Or.inl o5), u2_ne (Or.inl o5), u2_same]; rfl
  · exact Fr.tr (Fr.tr (S := fun c => c = a ∨ c = p) Fr_u2 Fr_u2 (fun c q => Or.inr q) (fun c q => Or.inl q)) Fr_u2 (fun c q => q) (fun c q => Or.inl q)
  · have v0 : vin 0 6 := by unfold vin; decide
    simp only [rX7_begin_0, rX7_begin_1, rX7_begin_4, rX7_begin_5, rX7_begin_7, rX7_begin_8, rX7_begin_9, rX7_begin_10, rX7_begin_13, rX7_begin_14, rX7_begin_15, rX7_begin_18, o1, o2, o3, rf_some, true_and, ne_eq, o4, not_false_eq_true, v0, cl0]
theorem c_stCopy (ok : stOK w Q a p) (ok2 : stOK w Q b q) (r : stIs I b q S) (hS : S.1.length ≤ 6) (hd : p ≠ b ∧ a ≠ q ∧ a ≠ b) : ∃ I', stIs I' a p S ∧ Fr (fun c => c = a ∨ c = p) I I' ∧ ∀ K, (WP mX7_copyFrom 0 [.ref a, .ref b] [] w (I, Q, J) K ↔ K none w (I', Q, J)) := by
  obtain ⟨o1, o2, o3, o4, o5⟩ := ok
  obtain ⟨p1, p2, p3, p4, p5⟩ := ok2
  refine ⟨u2 (u2 (uA I p (va_cpy (I q) (I p) 0 0 6)) a 1 (nI S.1.length)) a 2 (mkI S.2), ⟨?_, ?_, fun j hj => ?_⟩, ?_, fun K => ?_⟩
  · rw [u2_ne (Or.inr (by decide)), u2_same]
  · rw [u2_same]
  · rw [u2_ne (Or.inl o5), u2_ne (Or.inl o5), uA_same, pk_cpy_in (Nat.zero_le _) (by omega)]
    simp only [Nat.zero_add, Nat.sub_zero]
    exact r.2.2 j hj
  · exact Fr.tr (Fr.tr (S := fun c => c = a ∨ c = p) Fr_uA Fr_u2 (fun c q => Or.inr q) (fun c q => Or.inl q)) Fr_u2 (fun c q => q) (fun c q => Or.inl q)
  · have c6 : (6 : Int32).toNatClampNeg = 6 := by decide
    have n6 : ¬ (6 : Int32) < 0 := by decide
    have e1 : uA I p (va_cpy (I q) (I p) 0 0 6) b 1 = nI S.1.length := by rw [uA_ne (fun z => hd.1 z.symm)]; exact r.1
    have e2 : u2 (uA I p (va_cpy (I q) (I p) 0 0 6)) a 1 (nI S.1.length) b 2 = mkI S.2 := by rw [u2_ne (Or.inr (by decide)), uA_ne (fun z => hd.1 z.symm)]; exact r.2.1
    simp only [rX7_copyFrom_0, rX7_copyFrom_1, rX7_copyFrom_4, rX7_copyFrom_5, rX7_copyFrom_6, rX7_copyFrom_9, rX7_copyFrom_10, rX7_copyFrom_12, rX7_copyFrom_15, rX7_copyFrom_16, rX7_copyFrom_17, rX7_copyFrom_20, rX7_copyFrom_23, rX7_copyFrom_24, rX7_copyFrom_25, rX7_copyFrom_28, rX7_copyFrom_31, o1, o2, o3, p1, p2, p3, rf_some, true_and, ne_eq, o4, p4, not_false_eq_true, cl0, c6, n6, n00, Nat.zero_add, Nat.le_refl, e1, e2]
theorem c_stLike_loop (ok : stOK w Q a p) (r : stIs I a p S) (hS : stV S) (ok2 : stOK w Q b q) (r2 : stIs I b q T) (hT : stV T) (hl : S.1.length = T.1.length) (hm : S.2 = T.2) :
    ∀ n i, n + i = S.1.length → (∀ j, j < i → S.1.getD j 0 = T.1.getD j 0) → (WP mX7_isLike 26 [.ref a, .ref b, .int (nI i)] [] w (I, Q, J) K ↔ K (some (.int (if S = T then 1 else 0))) w (I, Q, J)) := by
  obtain ⟨o1, o2, o3, o4, o5⟩ := ok
  obtain ⟨p1, p2, p3, p4, p5⟩ := ok2
  intro n
  induction n with
  | zero =>
    intro i hi hj
    have e : S = T := by
      refine Prod.ext ?_ hm
      apply List.ext_getElem hl
      intro j h1 h2
      have := hj j (by omega)
      rw [List.getD_eq_getElem?_getD, List.getD_eq_getElem?_getD, List.getElem?_eq_getElem h1, List.getElem?_eq_getElem h2] at this
      simpa using this
    rw [rX7_isLike_26]
    simp only [rX7_isLike_0, rX7_isLike_1, rX7_isLike_4, rX7_isLike_5, rX7_isLike_8, rX7_isLike_11, rX7_isLike_12, rX7_isLike_15, rX7_isLike_16, rX7_isLike_19, rX7_isLike_22, rX7_isLike_23, rX7_isLike_24, rX7_isLike_25, rX7_isLike_27, rX7_isLike_28, rX7_isLike_31, rX7_isLike_34, rX7_isLike_35, rX7_isLike_37, rX7_isLike_40, rX7_isLike_41, rX7_isLike_44, rX7_isLike_45, rX7_isLike_46, rX7_isLike_47, rX7_isLike_50, rX7_isLike_51, rX7_isLike_52, rX7_isLike_55, rX7_isLike_56, rX7_isLike_57, rX7_isLike_60, rX7_isLike_63, rX7_isLike_64, o1, r.1, true_and]
    rw [if_pos (nI_le (by omega) (by have := hS.2.1; omega)), if_pos e]
    simp
  | succ n ih =>
    intro i hi hj
    have hS6 := hS.2.1
    rw [rX7_isLike_26]
    simp only [rX7_isLike_0, rX7_isLike_1, rX7_isLike_4, rX7_isLike_5, rX7_isLike_8, rX7_isLike_11, rX7_isLike_12, rX7_isLike_15, rX7_isLike_16, rX7_isLike_19, rX7_isLike_22, rX7_isLike_23, rX7_isLike_24, rX7_isLike_25, rX7_isLike_27, rX7_isLike_28, rX7_isLike_31, rX7_isLike_34, rX7_isLike_35, rX7_isLike_37, rX7_isLike_40, rX7_isLike_41, rX7_isLike_44, rX7_isLike_45, rX7_isLike_46, rX7_isLike_47, rX7_isLike_50, rX7_isLike_51, rX7_isLike_52, rX7_isLike_55, rX7_isLike_56, rX7_isLike_57, rX7_isLike_60, rX7_isLike_63, rX7_isLike_64, o1, o2, o3, p1, p2, p3, r.1, true_and, rf_some]
    rw [if_neg (nI_ge (show i < S.1.length by omega) (by omega)), if_neg (show ¬ (6 : Int32) ≤ nI i from nI_ge (show i < 6 by omega) (by decide))]
    simp only [vin_nI (show i < 6 by omega) (by decide), true_and, nI_clamp (show i < 2 ^ 31 by omega), r.2.2 i (by omega), r2.2.2 i (by omega)]
    by_cases e : S.1.getD i 0 = T.1.getD i 0
    · rw [if_pos (by rw [e]), nI_1]
      exact ih (i + 1) (by omega) (fun j hj2 => by
        by_cases z : j = i
        · rw [z]; exact e
        · exact hj j (by omega))
    · rw [if_neg (fun z => e (opn_inj (hS.2.2.1 i (by omega)) (hT.2.2.1 i (by omega)) z))]
      rw [if_neg (fun z : S = T => e (by rw [z]))]
      simp
theorem c_stLike (ok : stOK w Q a p) (r : stIs I a p S) (hS : stV S) (ok2 : stOK w Q b q) (r2 : stIs I b q T) (hT : stV T) : WP mX7_isLike 0 [.ref a, .ref b, .null] [] w (I, Q, J) K ↔ K (some (.int (if S = T then 1 else 0))) w (I, Q, J) := by
  have hS6 := hS.2.1
  have hT6 := hT.2.1
  simp only [rX7_isLike_0, rX7_isLike_1, rX7_isLike_4, rX7_isLike_5, rX7_isLike_8, rX7_isLike_11, rX7_isLike_12, rX7_isLike_15, rX7_isLike_16, rX7_isLike_19, rX7_isLike_22, rX7_isLike_23, rX7_isLike_24, rX7_isLike_25, rX7_isLike_27, rX7_isLike_28, rX7_isLike_31, rX7_isLike_34, rX7_isLike_35, rX7_isLike_37, rX7_isLike_40, rX7_isLike_41, rX7_isLike_44, rX7_isLike_45, rX7_isLike_46, rX7_isLike_47, rX7_isLike_50, rX7_isLike_51, rX7_isLike_52, rX7_isLike_55, rX7_isLike_56, rX7_isLike_57, rX7_isLike_60, rX7_isLike_63, rX7_isLike_64, ok.1, ok2.1, r.1, r2.1, r.2.1, r2.2.1, true_and]
  by_cases hl : S.1.length = T.1.length
  · rw [if_neg (by rw [hl]; simp)]
    by_cases hm : S.2 = T.2
    · rw [if_pos (by rw [hm])]
      rw [← nI_0]
      exact c_stLike_loop ok r hS ok2 r2 hT hl hm S.1.length 0 (by omega) (fun j hj => by omega)
    · rw [if_neg (fun z => hm (mkI_inj hS.2.2.2.2 hT.2.2.2.2 z)), if_neg (fun z : S = T => hm (by rw [z]))]
      simp
  · rw [if_pos (fun z => hl (nI_inj (by omega) (by omega) z)), if_neg (fun z : S = T => hl (by rw [z]))]
    simp
theorem c_opener {k : Nat} (ok : stOK w Q a p) (r : stIs I a p S) (hS : stV S) (hk : k < 2) : WP mX7_opener 0 [.ref a, .int (nI k), .null] [] w (I, Q, J) K ↔ K (some (.int (if k + 1 ≤ S.1.length then opn (S.1.getD (S.1.length - 1 - k) 0) else -1))) w (I, Q, J) := by
  obtain ⟨o1, o2, o3, o4, o5⟩ := ok
  have h1 := hS.1
  have h6 := hS.2.1
  have e1 : nI S.1.length - 1 = nI (S.1.length - 1) := pk_sub h1
  by_cases hc : k + 1 ≤ S.1.length
  · have e2 : nI (S.1.length - 1) - nI k = nI (S.1.length - 1 - k) := pk_sub (by omega)
    simp only [rX7_opener_0, rX7_opener_1, rX7_opener_4, rX7_opener_5, rX7_opener_6, rX7_opener_7, rX7_opener_8, rX7_opener_9, rX7_opener_10, rX7_opener_13, rX7_opener_14, rX7_opener_16, rX7_opener_19, rX7_opener_20, rX7_opener_23, rX7_opener_24, rX7_opener_25, rX7_opener_28, rX7_opener_29, o1, o2, o3, r.1, true_and, rf_some, e1, e2, nI_pos (show S.1.length - 1 - k < 2 ^ 31 by omega), if_false]
    rw [if_neg (show ¬ (6 : Int32) ≤ nI (S.1.length - 1 - k) from nI_ge (show S.1.length - 1 - k < 6 by omega) (by decide)), if_pos hc]
    simp only [vin_nI (show S.1.length - 1 - k < 6 by omega) (by decide), true_and, nI_clamp (show S.1.length - 1 - k < 2 ^ 31 by omega), r.2.2 _ (show S.1.length - 1 - k < S.1.length by omega)]
  · have e3 : nI (S.1.length - 1) - nI k < 0 := pk_sneg (by omega) (by omega)
    simp only [rX7_opener_0, rX7_opener_1, rX7_opener_4, rX7_opener_5, rX7_opener_6, rX7_opener_7, rX7_opener_8, rX7_opener_9, rX7_opener_10, rX7_opener_13, rX7_opener_14, rX7_opener_16, rX7_opener_19, rX7_opener_20, rX7_opener_23, rX7_opener_24, rX7_opener_25, rX7_opener_28, rX7_opener_29, o1, o2, o3, r.1, true_and, rf_some, e1, e3, if_true]
    rw [if_neg hc]
theorem c_mode (ok : stOK w Q a p) (r : stIs I a p S) (hS : stV S) : WP mX7_mode 0 [.ref a, .null] [] w (I, Q, J) K ↔ K (some (.int (mdI (topP S.1)))) w (I, Q, J) := by
  have ht : topP S.1 < 4 := hS.2.2.1 _ (by have := hS.1; omega)
  have h1 := hS.1
  rw [show (0 : Nat) = 0 from rfl]
  simp only [rX7_mode_0, rX7_mode_1, rX7_mode_2, rX7_mode_5, rX7_mode_6, rX7_mode_7, rX7_mode_10, rX7_mode_13, rX7_mode_14, rX7_mode_15, rX7_mode_16, rX7_mode_18, rX7_mode_21, rX7_mode_22, rX7_mode_25, rX7_mode_26, ok.1, true_and]
  rw [← nI_0, c_opener ok r hS (by omega)]
  rw [if_pos (by omega), Nat.sub_zero]
  show WP _ _ _ (_ :: []) _ _ _ ↔ _
  simp only [rX7_mode_0, rX7_mode_1, rX7_mode_2, rX7_mode_5, rX7_mode_6, rX7_mode_7, rX7_mode_10, rX7_mode_13, rX7_mode_14, rX7_mode_15, rX7_mode_16, rX7_mode_18, rX7_mode_21, rX7_mode_22, rX7_mode_25, rX7_mode_26, c_isQuote, tl_some, nI_0]
  show _ ↔ K (some (.int (mdI (topP S.1)))) w (I, Q, J)
  rw [show S.1.getD (S.1.length - 1) 0 = topP S.1 from rfl]
  rcases (show topP S.1 = 0 ∨ topP S.1 = 1 ∨ topP S.1 = 2 ∨ topP S.1 = 3 by omega) with e | e | e | e <;> rw [e] <;> simp [opn, mdI]
theorem c_quote (ok : stOK w Q a p) (r : stIs I a p S) (hS : stV S) : WP mX7_quote 0 [.ref a, .null] [] w (I, Q, J) K ↔ K (some (.int (if topP S.1 = 1 then 34 else if topP S.1 = 2 then 39 else -1))) w (I, Q, J) := by
  have ht : topP S.1 < 4 := hS.2.2.1 _ (by have := hS.1; omega)
  have h1 := hS.1
  simp only [rX7_quote_0, rX7_quote_1, rX7_quote_2, rX7_quote_5, rX7_quote_6, rX7_quote_7, rX7_quote_10, rX7_quote_13, rX7_quote_14, rX7_quote_17, rX7_quote_18, ok.1, true_and]
  rw [← nI_0, c_opener ok r hS (by omega)]
  rw [if_pos (by omega), Nat.sub_zero]
  show WP _ _ _ (_ :: []) _ _ _ ↔ _
  simp only [rX7_quote_0, rX7_quote_1, rX7_quote_2, rX7_quote_5, rX7_quote_6, rX7_quote_7, rX7_quote_10, rX7_quote_13, rX7_quote_14, rX7_quote_17, rX7_quote_18, c_isQuote, tl_some, nI_0]
  rw [show S.1.getD (S.1.length - 1) 0 = topP S.1 from rfl]
  rcases (show topP S.1 = 0 ∨ topP S.1 = 1 ∨ topP S.1 = 2 ∨ topP S.1 = 3 by omega) with e | e | e | e <;> rw [e] <;> simp [opn]
theorem c_liesInString (ok : stOK w Q a p) (r : stIs I a p S) (hS : stV S) : WP mX7_liesInString 0 [.ref a] [] w (I, Q, J) K ↔ K (some (.int (if 2 ≤ S.1.length ∧ (S.1.getD (S.1.length - 2) 0 = 1 ∨ S.1.getD (S.1.length - 2) 0 = 2) then 1 else 0))) w (I, Q, J) := by
  have h1 := hS.1
  simp only [rX7_liesInString_0, rX7_liesInString_1, rX7_liesInString_2, rX7_liesInString_5, rX7_liesInString_8, ok.1, true_and]
  rw [show (1 : Int32) = nI 1 from rfl, c_opener ok r hS (by omega)]
  show WP _ _ _ (_ :: []) _ _ _ ↔ _
  simp only [rX7_liesInString_0, rX7_liesInString_1, rX7_liesInString_2, rX7_liesInString_5, rX7_liesInString_8, c_isQuote, tl_some]
  by_cases h2 : 2 ≤ S.1.length
  · have ht : S.1.getD (S.1.length - 2) 0 < 4 := hS.2.2.1 _ (by omega)
    rw [if_pos h2, show S.1.length - 1 - 1 = S.1.length - 2 by omega]
    rcases (show S.1.getD (S.1.length - 2) 0 = 0 ∨ S.1.getD (S.1.length - 2) 0 = 1 ∨ S.1.getD (S.1.length - 2) 0 = 2 ∨ S.1.getD (S.1.length - 2) 0 = 3 by omega) with e | e | e | e <;> rw [e] <;> simp [opn, h2, show nI 1 = (1 : Int32) from rfl]
  · rw [if_neg h2]
    simp [h2]
def pushP (P : List Nat) (x : Nat) : List Nat := if P.length < 6 then P ++ [x] else P
theorem c_stOpen {x : Nat} {c : Int32} (ok : stOK w Q a p) (r : stIs I a p S) (hS : stV S) (hc : c = opn x) : ∃ I', stIs I' a p (pushP S.1 x, S.2) ∧ Fr (fun c => c = a ∨ c = p) I I' ∧ ∀ K, (WP mX7_open 0 [.ref a, .int c] [] w (I, Q, J) K ↔ K (some (.int (if S.1.length < 6 then 1 else 0))) w (I', Q, J)) := by
  obtain ⟨o1, o2, o3, o4, o5⟩ := ok
  have h1 := hS.1
  have h6 := hS.2.1
  subst hc
  by_cases hl : S.1.length < 6
  · refine ⟨u2 (u2 I p S.1.length (opn x)) a 1 (nI (S.1.length + 1)), ⟨?_, ?_, fun j hj => ?_⟩, ?_, fun K => ?_⟩
    · rw [u2_same]; simp [pushP, hl]
    · rw [u2_ne (Or.inr (by decide)), u2_ne (Or.inl (fun z => o5 z.symm))]; exact r.2.1
    · have hj : j < S.1.length + 1 := by simpa [pushP, hl] using hj
      rw [u2_ne (Or.inl o5)]
      simp only [pushP, hl, if_true, List.getD_eq_getElem?_getD]
      by_cases e : j = S.1.length
      · subst e; rw [u2_same]; simp
      · rw [u2_ne (Or.inr e), List.getElem?_append_left (by omega), ← List.getD_eq_getElem?_getD]
        exact r.2.2 j (by omega)
    · exact Fr.tr Fr_u2 Fr_u2 (fun c q => Or.inr q) (fun c q => Or.inl q)
    · have e0 : u2 I p S.1.length (opn x) a 1 = nI S.1.length := by rw [u2_ne (Or.inl (fun z => o5 z.symm))]; exact r.1
      simp only [rX7_open_0, rX7_open_1, rX7_open_4, rX7_open_5, rX7_open_8, rX7_open_9, rX7_open_12, rX7_open_14, rX7_open_17, rX7_open_18, rX7_open_19, rX7_open_20, rX7_open_23, rX7_open_24, rX7_open_27, rX7_open_28, rX7_open_29, rX7_open_30, rX7_open_31, rX7_open_34, rX7_open_35, rX7_open_36, rX7_open_39, rX7_open_40, o1, o2, o3, r.1, true_and, rf_some]
      rw [if_neg (show ¬ nI S.1.length < 1 from nI_nlt h1 (by omega)), if_pos (show nI S.1.length < 6 from nI_lt hl (by decide)), if_pos hl]
      simp only [ne_eq, o4, not_false_eq_true, true_and, vin_nI (show S.1.length < 6 by omega) (by decide), nI_clamp (show S.1.length < 2 ^ 31 by omega), e0, nI_1, or_true]
  · refine ⟨I, ?_, Fr.rf, fun K => ?_⟩
    · simp only [pushP, hl, if_false]; exact r
    · simp only [rX7_open_0, rX7_open_1, rX7_open_4, rX7_open_5, rX7_open_8, rX7_open_9, rX7_open_12, rX7_open_14, rX7_open_17, rX7_open_18, rX7_open_19, rX7_open_20, rX7_open_23, rX7_open_24, rX7_open_27, rX7_open_28, rX7_open_29, rX7_open_30, rX7_open_31, rX7_open_34, rX7_open_35, rX7_open_36, rX7_open_39, rX7_open_40, o1, o2, o3, r.1, true_and, rf_some]
      rw [if_neg (show ¬ nI S.1.length < 1 from nI_nlt h1 (by omega)), if_neg (show ¬ nI S.1.length < 6 from nI_nlt (show 6 ≤ S.1.length by omega) (by omega)), if_neg hl]
      simp
theorem c_stClose (ok : stOK w Q a p) (r : stIs I a p S) (hS : stV S) (h2 : 2 ≤ S.1.length) : ∃ I', stIs I' a p (S.1.dropLast, S.2) ∧ Fr (fun c => c = a ∨ c = p) I I' ∧ ∀ K, (WP mX7_close 0 [.ref a] [] w (I, Q, J) K ↔ K none w (I', Q, J)) := by
  obtain ⟨o1, o2, o3, o4, o5⟩ := ok
  have h6 := hS.2.1
  refine ⟨u2 I a 1 (nI (S.1.length - 1)), ⟨?_, ?_, fun j hj => ?_⟩, ?_, fun K => ?_⟩
  · rw [u2_same]; simp
  · rw [u2_ne (Or.inr (by decide))]; exact r.2.1
  · have hj : j < S.1.length - 1 := by simpa using hj
    rw [u2_ne (Or.inl o5), r.2.2 j (by omega)]
    simp only [List.getD_eq_getElem?_getD, List.getElem?_dropLast]
    rw [if_pos hj]
  · exact Fr_u2.wk (fun c q => Or.inl q)
  · have e1 : nI S.1.length - 1 = nI (S.1.length - 1) := pk_sub (show 1 ≤ S.1.length by omega)
    simp only [rX7_close_0, rX7_close_1, rX7_close_4, rX7_close_5, rX7_close_8, rX7_close_9, rX7_close_10, rX7_close_13, rX7_close_14, rX7_close_15, rX7_close_18, o1, r.1, true_and]
    rw [if_neg (show ¬ nI S.1.length ≤ 1 from nI_ge (show 1 < S.1.length by omega) (by omega))]
    simp only [e1]
/-- from the lowest string with the single quote on all goes -/
def cutF : Nat → List Nat → Nat → List Nat
  | 0, P, _ => P
  | n + 1, P, i => if i < P.length then (if P.getD i 0 = 2 then P.take i else cutF n P (i + 1)) else P
def cutP (P : List Nat) : List Nat := cutF 7 P 1
theorem c_stCut_loop (ok : stOK w Q a p) (hS : stV S) (r : stIs I a p S) : ∀ n i, 1 ≤ i → i ≤ 6 → S.1.length ≤ n + i → ∃ I', stIs I' a p (cutF (n + 1) S.1 i, S.2) ∧ Fr (fun c => c = a ∨ c = p) I I' ∧ ∀ K, (WP mX7_closeLineStrings 2 [.ref a, .int (nI i)] [] w (I, Q, J) K ↔ K none w (I', Q, J)) := by
  obtain ⟨o1, o2, o3, o4, o5⟩ := id ok
  have h6 := hS.2.1
  intro n
  induction n with
  | zero =>
    intro i hi hi6 hn
    refine ⟨I, ?_, Fr.rf, fun K => ?_⟩
    · simp only [cutF]; rw [if_neg (by omega)]; exact r
    · rw [rX7_closeLineStrings_2]
      simp only [rX7_closeLineStrings_0, rX7_closeLineStrings_1, rX7_closeLineStrings_3, rX7_closeLineStrings_4, rX7_closeLineStrings_7, rX7_closeLineStrings_10, rX7_closeLineStrings_11, rX7_closeLineStrings_13, rX7_closeLineStrings_16, rX7_closeLineStrings_17, rX7_closeLineStrings_20, rX7_closeLineStrings_21, rX7_closeLineStrings_22, rX7_closeLineStrings_24, rX7_closeLineStrings_27, rX7_closeLineStrings_28, rX7_closeLineStrings_29, rX7_closeLineStrings_32, rX7_closeLineStrings_35, rX7_closeLineStrings_38, o1, r.1, true_and]
      rw [if_pos (nI_le (show S.1.length ≤ i by omega) (by omega))]
  | succ n ih =>
    intro i hi hi6 hn
    by_cases hl : i < S.1.length
    · by_cases h2 : S.1.getD i 0 = 2
      · refine ⟨u2 I a 1 (nI i), ?_, Fr_u2.wk (fun c q => Or.inl q), fun K => ?_⟩
        · rw [cutF, if_pos hl, if_pos h2]
          refine ⟨?_, ?_, fun j hj => ?_⟩
          · rw [u2_same]; simp [Nat.min_eq_left (Nat.le_of_lt hl)]
          · rw [u2_ne (Or.inr (by decide))]; exact r.2.1
          · have hj : j < i := by simp at hj; omega
            rw [u2_ne (Or.inl o5), r.2.2 j (by omega)]
            simp only [List.getD_eq_getElem?_getD, List.getElem?_take, hj, if_true]
        · rw [rX7_closeLineStrings_2]
          simp only [rX7_closeLineStrings_0, rX7_closeLineStrings_1, rX7_closeLineStrings_3, rX7_closeLineStrings_4, rX7_closeLineStrings_7, rX7_closeLineStrings_10, rX7_closeLineStrings_11, rX7_closeLineStrings_13, rX7_closeLineStrings_16, rX7_closeLineStrings_17, rX7_closeLineStrings_20, rX7_closeLineStrings_21, rX7_closeLineStrings_22, rX7_closeLineStrings_24, rX7_closeLineStrings_27, rX7_closeLineStrings_28, rX7_closeLineStrings_29, rX7_closeLineStrings_32, rX7_closeLineStrings_35, rX7_closeLineStrings_38, o1, o2, o3, r.1, true_and, rf_some]
          rw [if_neg (nI_ge hl (by omega)), if_neg (show ¬ (6 : Int32) ≤ nI i from nI_ge (show i < 6 by omega) (by decide))]
          simp only [vin_nI (show i < 6 by omega) (by decide), true_and, nI_clamp (show i < 2 ^ 31 by omega), r.2.2 i hl, h2]
          rw [if_neg (show ¬ ¬ opn 2 = 39 from fun z => z rfl), nI_1, rX7_closeLineStrings_2]
          simp only [rX7_closeLineStrings_0, rX7_closeLineStrings_1, rX7_closeLineStrings_3, rX7_closeLineStrings_4, rX7_closeLineStrings_7, rX7_closeLineStrings_10, rX7_closeLineStrings_11, rX7_closeLineStrings_13, rX7_closeLineStrings_16, rX7_closeLineStrings_17, rX7_closeLineStrings_20, rX7_closeLineStrings_21, rX7_closeLineStrings_22, rX7_closeLineStrings_24, rX7_closeLineStrings_27, rX7_closeLineStrings_28, rX7_closeLineStrings_29, rX7_closeLineStrings_32, rX7_closeLineStrings_35, rX7_closeLineStrings_38, o1, true_and, u2_same]
          rw [if_pos (nI_le (show i ≤ i + 1 by omega) (by omega))]
      · obtain ⟨I', g1, g2, g3⟩ := ih (i + 1) (by omega) (by omega) (by omega)
        refine ⟨I', ?_, g2, fun K => ?_⟩
        · rw [cutF, if_pos hl, if_neg h2]; exact g1
        · rw [rX7_closeLineStrings_2]
          simp only [rX7_closeLineStrings_0, rX7_closeLineStrings_1, rX7_closeLineStrings_3, rX7_closeLineStrings_4, rX7_closeLineStrings_7, rX7_closeLineStrings_10, rX7_closeLineStrings_11, rX7_closeLineStrings_13, rX7_closeLineStrings_16, rX7_closeLineStrings_17, rX7_closeLineStrings_20, rX7_closeLineStrings_21, rX7_closeLineStrings_22, rX7_closeLineStrings_24, rX7_closeLineStrings_27, rX7_closeLineStrings_28, rX7_closeLineStrings_29, rX7_closeLineStrings_32, rX7_closeLineStrings_35, rX7_closeLineStrings_38, o1, o2, o3, r.1, true_and, rf_some]
          rw [if_neg (nI_ge hl (by omega)), if_neg (show ¬ (6 : Int32) ≤ nI i from nI_ge (show i < 6 by omega) (by decide))]
          simp only [vin_nI (show i < 6 by omega) (by decide), true_and, nI_clamp (show i < 2 ^ 31 by omega), r.2.2 i hl]
          rw [if_pos (show ¬ opn (S.1.getD i 0) = 39 from fun z => h2 (opn_inj (hS.2.2.1 i hl) (by decide) z)), nI_1]
          exact g3 K
    · refine ⟨I, ?_, Fr.rf, fun K => ?_⟩
      · rw [cutF, if_neg hl]; exact r
      · rw [rX7_closeLineStrings_2]
        simp only [rX7_closeLineStrings_0, rX7_closeLineStrings_1, rX7_closeLineStrings_3, rX7_closeLineStrings_4, rX7_closeLineStrings_7, rX7_closeLineStrings_10, rX7_closeLineStrings_11, rX7_closeLineStrings_13, rX7_closeLineStrings_16, rX7_closeLineStrings_17, rX7_closeLineStrings_20, rX7_closeLineStrings_21, rX7_closeLineStrings_22, rX7_closeLineStrings_24, rX7_closeLineStrings_27, rX7_closeLineStrings_28, rX7_closeLineStrings_29, rX7_closeLineStrings_32, rX7_closeLineStrings_35, rX7_closeLineStrings_38, o1, r.1, true_and]
        rw [if_pos (nI_le (show S.1.length ≤ i by omega) (by omega))]
theorem c_stCut (ok : stOK w Q a p) (hS : stV S) (r : stIs I a p S) : ∃ I', stIs I' a p (cutP S.1, S.2) ∧ Fr (fun c => c = a ∨ c = p) I I' ∧ ∀ K, (WP mX7_closeLineStrings 0 [.ref a, .null] [] w (I, Q, J) K ↔ K none w (I', Q, J)) := by
  have h6 := hS.2.1
  obtain ⟨I', g1, g2, g3⟩ := c_stCut_loop (Q := Q) (J := J) ok hS r 6 1 (by omega) (by omega) (by omega)
  refine ⟨I', g1, g2, fun K => ?_⟩
  simp only [rX7_closeLineStrings_0, rX7_closeLineStrings_1, rX7_closeLineStrings_3, rX7_closeLineStrings_4, rX7_closeLineStrings_7, rX7_closeLineStrings_10, rX7_closeLineStrings_11, rX7_closeLineStrings_13, rX7_closeLineStrings_16, rX7_closeLineStrings_17, rX7_closeLineStrings_20, rX7_closeLineStrings_21, rX7_closeLineStrings_22, rX7_closeLineStrings_24, rX7_closeLineStrings_27, rX7_closeLineStrings_28, rX7_closeLineStrings_29, rX7_closeLineStrings_32, rX7_closeLineStrings_35, rX7_closeLineStrings_38]
  exact g3 K
end ST
