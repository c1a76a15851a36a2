/-! ===== a line's colours ===== -/
/-- the cells of a line at b: itself, row b+1 (bytes b+2), colours b+3, modes b+4, state b+5 (pile b+6) -/
def lnOK (w : WS) (Q : Nat → Nat → Option Nat) (b : Nat) : Prop := w.1 b = (2, 0) ∧ Q b 0 = some (b + 1) ∧ Q b 1 = some (b + 3) ∧ Q b 2 = some (b + 4) ∧ Q b 3 = some (b + 5) ∧ rowOK w Q (b + 1) (b + 2) 30 ∧ w.1 (b + 3) = (20, 30) ∧ w.1 (b + 4) = (20, 30) ∧ stOK w Q (b + 5) (b + 6)
/-- bytes painted so far: each one's colour and mode -/
def ptIs (I : Nat → Nat → Int32) (b : Nat) (c : List (Int32 × Int32)) : Prop := ∀ j, j < c.length → I (b + 3) j = (c.getD j (0, 0)).1 ∧ I (b + 4) j = (c.getD j (0, 0)).2
theorem ptIs.fr {I I' : Nat → Nat → Int32} {b : Nat} {c : List (Int32 × Int32)} (h : ptIs I b c) (h3 : I' (b + 3) = I (b + 3)) (h4 : I' (b + 4) = I (b + 4)) : ptIs I' b c := fun j hj => by rw [h3, h4]; exact h j hj
section LN
variable {w : WS} {I : Nat → Nat → Int32} {Q : Nat → Nat → Option Nat} {J : Nat → Nat → Int64} {K : Option Value → WS → HS → Prop} {b : Nat} {l : List Int32}
theorem c_fill_loop {f t : Nat} {x y : Int32} (ok : lnOK w Q b) (hl : l.length ≤ 30) (ht : t ≤ l.length) : ∀ n i (I : Nat → Nat → Int32), n + i = t → f ≤ i → rowIs I (b + 1) (b + 2) l → ∃ I', Fr (fun c => c = b + 3 ∨ c = b + 4) I I' ∧ (∀ j, I' (b + 3) j = if i ≤ j ∧ j < t then x else I (b + 3) j) ∧ (∀ j, I' (b + 4) j = if i ≤ j ∧ j < t then y else I (b + 4) j) ∧ ∀ K, (WP mX2_fill 7 [.ref b, .int (nI f), .int (nI t), .int x, .int y, .int (nI i)] [] w (I, Q, J) K ↔ K (some (.int (nI t))) w (I', Q, J)) := by
  obtain ⟨o1, o2, o3, o4, o5, ⟨r1, r2, r3, r4, r5, r6⟩, o7, o8, o9⟩ := id ok
  intro n
  induction n with
  | zero =>
    intro i I hi hf r
    refine ⟨I, Fr.rf, fun j => ?_, fun j => ?_, fun K => ?_⟩
    · rw [if_neg (by omega)]
    · rw [if_neg (by omega)]
    · rw [rX2_fill_7]
      simp only [rX2_fill_0, rX2_fill_1, rX2_fill_2, rX2_fill_5, rX2_fill_9, rX2_fill_10, rX2_fill_13, rX2_fill_15, rX2_fill_16, rX2_fill_19, rX2_fill_22, rX2_fill_25, rX2_fill_26, rX2_fill_29, rX2_fill_31, rX2_fill_32, rX2_fill_33, rX2_fill_34, rX2_fill_37, rX2_fill_39, rX2_fill_41, rX2_fill_42, rX2_fill_45, rX2_fill_48, rX2_fill_49]
      rw [if_pos (nI_le (show t ≤ i by omega) (by omega))]
  | succ n ih =>
    intro i I hi hf r
    obtain ⟨I', g1, g2, g3, g4⟩ := ih (i + 1) (u2 (u2 I (b + 3) i x) (b + 4) i y) (by omega) (by omega) (r.fr ((Fr_u2 (b + 1) (by omega)).trans (Fr_u2 (b + 1) (by omega))) ((Fr_u2 (b + 2) (by omega)).trans (Fr_u2 (b + 2) (by omega))))
    refine ⟨I', ?_, fun j => ?_, fun j => ?_, fun K => ?_⟩
    · exact Fr.tr (Fr.tr (S := fun c => c = b + 3 ∨ c = b + 4) Fr_u2 Fr_u2 (fun c q => Or.inl q) (fun c q => Or.inr q)) g1 (fun c q => q) (fun c q => q)
    · rw [g2]
      by_cases e : j = i
      · subst e
        rw [if_neg (by omega), if_pos (by omega), u2_ne (Or.inl (by omega)), u2_same]
      · rw [u2_ne (Or.inl (by omega)), u2_ne (Or.inr e)]
        by_cases e2 : i + 1 ≤ j ∧ j < t
        · rw [if_pos e2, if_pos (by omega)]
        · rw [if_neg e2, if_neg (by omega)]
    · rw [g3]
      by_cases e : j = i
      · subst e
        rw [if_neg (by omega), if_pos (by omega), u2_same]
      · rw [u2_ne (Or.inr e), u2_ne (Or.inl (by omega))]
        by_cases e2 : i + 1 ≤ j ∧ j < t
        · rw [if_pos e2, if_pos (by omega)]
        · rw [if_neg e2, if_neg (by omega)]
    · rw [rX2_fill_7]
      simp only [rX2_fill_0, rX2_fill_1, rX2_fill_2, rX2_fill_5, rX2_fill_9, rX2_fill_10, rX2_fill_13, rX2_fill_15, rX2_fill_16, rX2_fill_19, rX2_fill_22, rX2_fill_25, rX2_fill_26, rX2_fill_29, rX2_fill_31, rX2_fill_32, rX2_fill_33, rX2_fill_34, rX2_fill_37, rX2_fill_39, rX2_fill_41, rX2_fill_42, rX2_fill_45, rX2_fill_48, rX2_fill_49, o1, o2, o3, o4, r1, r.1, o7, o8, true_and, rf_some, ne_eq, show ¬ b + 3 = 0 by omega, show ¬ b + 4 = 0 by omega, not_false_eq_true, vin_nI (show i < 30 by omega) (by decide), nI_clamp (show i < 2 ^ 31 by omega), nI_1]
      rw [if_neg (nI_ge (show i < t by omega) (by omega)), if_neg (nI_ge (show i < l.length by omega) (by omega))]
      exact g4 K
theorem c_fill {f t : Nat} {x y : Int32} (ok : lnOK w Q b) (r : rowIs I (b + 1) (b + 2) l) (hl : l.length ≤ 30) (ht : t ≤ l.length) (hf : f ≤ t) : ∃ I', Fr (fun c => c = b + 3 ∨ c = b + 4) I I' ∧ (∀ j, I' (b + 3) j = if f ≤ j ∧ j < t then x else I (b + 3) j) ∧ (∀ j, I' (b + 4) j = if f ≤ j ∧ j < t then y else I (b + 4) j) ∧ ∀ K, (WP mX2_fill 0 [.ref b, .int (nI f), .int (nI t), .int x, .int y, .null] [] w (I, Q, J) K ↔ K (some (.int (nI t))) w (I', Q, J)) := by
  obtain ⟨I', g1, g2, g3, g4⟩ := c_fill_loop (Q := Q) (J := J) (x := x) (y := y) ok hl ht (t - f) f I (by omega) (Nat.le_refl _) r
  refine ⟨I', g1, g2, g3, fun K => ?_⟩
  have e : (if (0 : Int32) < nI f then nI f else 0) = nI f := by
    by_cases h0 : f = 0
    · subst h0; rfl
    · rw [if_pos (show (0 : Int32) < nI f from nI_lt (a := 0) (by omega) (by omega))]
  simp only [rX2_fill_0, rX2_fill_1, rX2_fill_2, rX2_fill_5, rX2_fill_9, rX2_fill_10, rX2_fill_13, rX2_fill_15, rX2_fill_16, rX2_fill_19, rX2_fill_22, rX2_fill_25, rX2_fill_26, rX2_fill_29, rX2_fill_31, rX2_fill_32, rX2_fill_33, rX2_fill_34, rX2_fill_37, rX2_fill_39, rX2_fill_41, rX2_fill_42, rX2_fill_45, rX2_fill_48, rX2_fill_49, e]
  exact g4 K
/-- painting one stretch behind what is painted -/
theorem c_fillPt {f t : Nat} {x y : Int32} {c : List (Int32 × Int32)} (ok : lnOK w Q b) (r : rowIs I (b + 1) (b + 2) l) (hl : l.length ≤ 30) (ht : t ≤ l.length) (hf : f ≤ t) (hc : c.length = f) (pt : ptIs I b c) : ∃ I', Fr (fun c => c = b + 3 ∨ c = b + 4) I I' ∧ ptIs I' b (c ++ List.replicate (t - f) (x, y)) ∧ ∀ K, (WP mX2_fill 0 [.ref b, .int (nI f), .int (nI t), .int x, .int y, .null] [] w (I, Q, J) K ↔ K (some (.int (nI t))) w (I', Q, J)) := by
  obtain ⟨I', g1, g2, g3, g4⟩ := c_fill (Q := Q) (J := J) (x := x) (y := y) ok r hl ht hf
  refine ⟨I', g1, fun j hj => ?_, g4⟩
  have hj : j < t := by simp at hj; omega
  rw [g2, g3, List.getD_eq_getElem?_getD]
  by_cases e : j < f
  · rw [if_neg (by omega), if_neg (by omega), List.getElem?_append_left (by omega), ← List.getD_eq_getElem?_getD]
    exact pt j (by omega)
  · rw [if_pos (by omega), if_pos (by omega), List.getElem?_append_right (by omega), List.getElem?_replicate, if_pos (by omega)]
    exact ⟨rfl, rfl⟩
/-- how many of the places i .. i + n - 1 are so; the k-th of them; the first of them -/
def cntF (f : Nat → Bool) : Nat → Nat → Nat
  | 0, _ => 0
  | n + 1, i => (if f i then 1 else 0) + cntF f n (i + 1)
def fndF (f : Nat → Bool) : Nat → Nat → Nat → Option Nat
  | 0, _, _ => none
  | n + 1, i, k => if f i then (if k = 0 then some i else fndF f n (i + 1) (k - 1)) else fndF f n (i + 1) k
def endF (f : Nat → Bool) : Nat → Nat → Nat
  | 0, i => i
  | n + 1, i => if f i then i else endF f n (i + 1)
theorem cntF_le (f : Nat → Bool) : ∀ n i, cntF f n i ≤ n
  | 0, _ => Nat.le_refl _
  | n + 1, i => by have := cntF_le f n (i + 1); simp only [cntF]; split <;> omega
def begC (c : List (Int32 × Int32)) (i : Nat) : Bool := i == 0 || (c.getD i (0, 0)).1 != (c.getD (i - 1) (0, 0)).1
variable {c : List (Int32 × Int32)}
theorem c_countBytes_loop {x : Int32} (ok : lnOK w Q b) (r : rowIs I (b + 1) (b + 2) l) (hl : l.length ≤ 30) (hc : c.length = l.length) (pt : ptIs I b c) : ∀ n i s, n + i = l.length → s ≤ i → (WP mX2_countBytes 4 [.ref b, .int x, .int (nI s), .int (nI i)] [] w (I, Q, J) K ↔ K (some (.int (nI (s + cntF (fun j => (c.getD j (0, 0)).1 == x) n i)))) w (I, Q, J)) := by
  obtain ⟨o1, o2, o3, o4, o5, ⟨r1, r2, r3, r4, r5, r6⟩, o7, o8, o9⟩ := id ok
  intro n
  induction n with
  | zero =>
    intro i s hi hs
    rw [rX2_countBytes_4]
    simp only [rX2_countBytes_0, rX2_countBytes_1, rX2_countBytes_2, rX2_countBytes_3, rX2_countBytes_5, rX2_countBytes_6, rX2_countBytes_9, rX2_countBytes_12, rX2_countBytes_15, rX2_countBytes_16, rX2_countBytes_19, rX2_countBytes_20, rX2_countBytes_21, rX2_countBytes_22, rX2_countBytes_25, rX2_countBytes_28, rX2_countBytes_31, rX2_countBytes_34, rX2_countBytes_35, o1, o2, r1, r.1, true_and, rf_some]
    rw [if_pos (nI_le (show l.length ≤ i by omega) (by omega))]
    rfl
  | succ n ih =>
    intro i s hi hs
    rw [rX2_countBytes_4]
    simp only [rX2_countBytes_0, rX2_countBytes_1, rX2_countBytes_2, rX2_countBytes_3, rX2_countBytes_5, rX2_countBytes_6, rX2_countBytes_9, rX2_countBytes_12, rX2_countBytes_15, rX2_countBytes_16, rX2_countBytes_19, rX2_countBytes_20, rX2_countBytes_21, rX2_countBytes_22, rX2_countBytes_25, rX2_countBytes_28, rX2_countBytes_31, rX2_countBytes_34, rX2_countBytes_35, o1, o2, o3, r1, r.1, o7, true_and, rf_some, vin_nI (show i < 30 by omega) (by decide), nI_clamp (show i < 2 ^ 31 by omega), nI_1, (pt i (by omega)).1]
    rw [if_neg (nI_ge (show i < l.length by omega) (by omega))]
    simp only [cntF]
    by_cases e : (c.getD i (0, 0)).1 = x
    · rw [if_neg (fun q => q e), ih (i + 1) (s + 1) (by omega) (by omega), if_pos (by simpa using e)]
      rw [Nat.add_assoc]
    · rw [if_pos e, ih (i + 1) s (by omega) (by omega), if_neg (by simpa using e), Nat.zero_add]
theorem c_countBytes {x : Int32} (ok : lnOK w Q b) (r : rowIs I (b + 1) (b + 2) l) (hl : l.length ≤ 30) (hc : c.length = l.length) (pt : ptIs I b c) : WP mX2_countBytes 0 [.ref b, .int x, .null, .null] [] w (I, Q, J) K ↔ K (some (.int (nI (cntF (fun j => (c.getD j (0, 0)).1 == x) l.length 0)))) w (I, Q, J) := by
  have := c_countBytes_loop (K := K) (J := J) (x := x) ok r hl hc pt l.length 0 0 (by omega) (by omega)
  rw [nI_0, Nat.zero_add] at this
  simp only [rX2_countBytes_0, rX2_countBytes_1, rX2_countBytes_2, rX2_countBytes_3, rX2_countBytes_5, rX2_countBytes_6, rX2_countBytes_9, rX2_countBytes_12, rX2_countBytes_15, rX2_countBytes_16, rX2_countBytes_19, rX2_countBytes_20, rX2_countBytes_21, rX2_countBytes_22, rX2_countBytes_25, rX2_countBytes_28, rX2_countBytes_31, rX2_countBytes_34, rX2_countBytes_35]
  exact this
theorem c_beginsSpan {i : Nat} (ok : lnOK w Q b) (pt : ptIs I b c) (hi : i < c.length) (hc : c.length ≤ 30) : WP mX2_beginsSpan 0 [.ref b, .int (nI i)] [] w (I, Q, J) K ↔ K (some (.int (if begC c i then 1 else 0))) w (I, Q, J) := by
  obtain ⟨o1, o2, o3, o4, o5, -, o7, o8, o9⟩ := id ok
  by_cases h0 : i = 0
  · subst h0
    simp only [rX2_beginsSpan_0, rX2_beginsSpan_1, rX2_beginsSpan_4, rX2_beginsSpan_5, rX2_beginsSpan_8, rX2_beginsSpan_9, rX2_beginsSpan_10, rX2_beginsSpan_11, rX2_beginsSpan_14, rX2_beginsSpan_15, rX2_beginsSpan_16, rX2_beginsSpan_17, rX2_beginsSpan_18, rX2_beginsSpan_21, rX2_beginsSpan_22, rX2_beginsSpan_25, rX2_beginsSpan_26, nI_0, if_true, begC]
    simp
  · have e1 : nI i - 1 = nI (i - 1) := pk_sub (show 1 ≤ i by omega)
    simp only [rX2_beginsSpan_0, rX2_beginsSpan_1, rX2_beginsSpan_4, rX2_beginsSpan_5, rX2_beginsSpan_8, rX2_beginsSpan_9, rX2_beginsSpan_10, rX2_beginsSpan_11, rX2_beginsSpan_14, rX2_beginsSpan_15, rX2_beginsSpan_16, rX2_beginsSpan_17, rX2_beginsSpan_18, rX2_beginsSpan_21, rX2_beginsSpan_22, rX2_beginsSpan_25, rX2_beginsSpan_26, o1, o3, o7, true_and, rf_some, e1, vin_nI (show i < 30 by omega) (by decide), vin_nI (show i - 1 < 30 by omega) (by decide), nI_clamp (show i < 2 ^ 31 by omega), nI_clamp (show i - 1 < 2 ^ 31 by omega), (pt i hi).1, (pt (i - 1) (by omega)).1]
    rw [if_neg (nI_ne0 (by omega) (by omega))]
    have eb : begC c i = ((c.getD i (0, 0)).1 != (c.getD (i - 1) (0, 0)).1) := by simp [begC, h0]
    rw [eb]
    by_cases e : (c.getD i (0, 0)).1 = (c.getD (i - 1) (0, 0)).1
    · rw [if_pos e, if_neg (by rw [e]; simp)]; simp
    · rw [if_neg e, if_pos (by simpa using e)]; simp
theorem c_countSpans_loop (ok : lnOK w Q b) (r : rowIs I (b + 1) (b + 2) l) (hl : l.length ≤ 30) (hc : c.length = l.length) (pt : ptIs I b c) : ∀ n i s, n + i = l.length → s ≤ i → (WP mX2_countSpans 4 [.ref b, .int (nI s), .int (nI i)] [] w (I, Q, J) K ↔ K (some (.int (nI (s + cntF (begC c) n i)))) w (I, Q, J)) := by
  obtain ⟨o1, o2, o3, o4, o5, ⟨r1, r2, r3, r4, r5, r6⟩, o7, o8, o9⟩ := id ok
  intro n
  induction n with
  | zero =>
    intro i s hi hs
    rw [rX2_countSpans_4]
    simp only [rX2_countSpans_0, rX2_countSpans_1, rX2_countSpans_2, rX2_countSpans_3, rX2_countSpans_5, rX2_countSpans_6, rX2_countSpans_9, rX2_countSpans_12, rX2_countSpans_15, rX2_countSpans_16, rX2_countSpans_17, rX2_countSpans_20, rX2_countSpans_23, rX2_countSpans_26, rX2_countSpans_29, rX2_countSpans_32, rX2_countSpans_33, o1, o2, r1, r.1, true_and, rf_some]
    rw [if_pos (nI_le (show l.length ≤ i by omega) (by omega))]
    rfl
  | succ n ih =>
    intro i s hi hs
    rw [rX2_countSpans_4]
    simp only [rX2_countSpans_0, rX2_countSpans_1, rX2_countSpans_2, rX2_countSpans_3, rX2_countSpans_5, rX2_countSpans_6, rX2_countSpans_9, rX2_countSpans_12, rX2_countSpans_15, rX2_countSpans_16, rX2_countSpans_17, rX2_countSpans_20, rX2_countSpans_23, rX2_countSpans_26, rX2_countSpans_29, rX2_countSpans_32, rX2_countSpans_33, o1, o2, r1, r.1, true_and, rf_some]
    rw [if_neg (nI_ge (show i < l.length by omega) (by omega)), c_beginsSpan ok pt (by omega) (by omega)]
    simp only [tl_some, rX2_countSpans_0, rX2_countSpans_1, rX2_countSpans_2, rX2_countSpans_3, rX2_countSpans_5, rX2_countSpans_6, rX2_countSpans_9, rX2_countSpans_12, rX2_countSpans_15, rX2_countSpans_16, rX2_countSpans_17, rX2_countSpans_20, rX2_countSpans_23, rX2_countSpans_26, rX2_countSpans_29, rX2_countSpans_32, rX2_countSpans_33, nI_1, cntF]
    by_cases e : begC c i = true
    · rw [if_pos e, if_neg (by decide), ih (i + 1) (s + 1) (by omega) (by omega), if_pos e, Nat.add_assoc]
    · rw [if_neg e, if_pos rfl, ih (i + 1) s (by omega) (by omega), if_neg e, Nat.zero_add]
theorem c_countSpans (ok : lnOK w Q b) (r : rowIs I (b + 1) (b + 2) l) (hl : l.length ≤ 30) (hc : c.length = l.length) (pt : ptIs I b c) : WP mX2_countSpans 0 [.ref b, .null, .null] [] w (I, Q, J) K ↔ K (some (.int (nI (cntF (begC c) l.length 0)))) w (I, Q, J) := by
  have e : (0 : Int32) = nI 0 := nI_0.symm
  simp only [rX2_countSpans_0, rX2_countSpans_1, rX2_countSpans_2, rX2_countSpans_3, rX2_countSpans_5, rX2_countSpans_6, rX2_countSpans_9, rX2_countSpans_12, rX2_countSpans_15, rX2_countSpans_16, rX2_countSpans_17, rX2_countSpans_20, rX2_countSpans_23, rX2_countSpans_26, rX2_countSpans_29, rX2_countSpans_32, rX2_countSpans_33]
  rw [e, c_countSpans_loop ok r hl hc pt l.length 0 0 (by omega) (by omega), Nat.zero_add]
def optI (o : Option Nat) : Int32 := match o with | some i => nI i | none => -1
theorem c_beginOfSpan_loop {k : Int32} (ok : lnOK w Q b) (r : rowIs I (b + 1) (b + 2) l) (hl : l.length ≤ 30) (hc : c.length = l.length) (pt : ptIs I b c) : ∀ n i s (d : Nat), n + i = l.length → s ≤ i → k.toInt = (s : Int) + (d : Int) → (WP mX2_beginOfSpan 4 [.ref b, .int k, .int (nI s), .int (nI i)] [] w (I, Q, J) K ↔ K (some (.int (optI (fndF (begC c) n i d)))) w (I, Q, J)) := by
  obtain ⟨o1, o2, o3, o4, o5, ⟨r1, r2, r3, r4, r5, r6⟩, o7, o8, o9⟩ := id ok
  intro n
  induction n with
  | zero =>
    intro i s d hi hs hd
    rw [rX2_beginOfSpan_4]
    simp only [rX2_beginOfSpan_0, rX2_beginOfSpan_1, rX2_beginOfSpan_2, rX2_beginOfSpan_3, rX2_beginOfSpan_5, rX2_beginOfSpan_6, rX2_beginOfSpan_9, rX2_beginOfSpan_12, rX2_beginOfSpan_15, rX2_beginOfSpan_16, rX2_beginOfSpan_17, rX2_beginOfSpan_20, rX2_beginOfSpan_23, rX2_beginOfSpan_24, rX2_beginOfSpan_25, rX2_beginOfSpan_28, rX2_beginOfSpan_29, rX2_beginOfSpan_30, rX2_beginOfSpan_33, rX2_beginOfSpan_36, rX2_beginOfSpan_39, rX2_beginOfSpan_40, o1, o2, r1, r.1, true_and, rf_some]
    rw [if_pos (nI_le (show l.length ≤ i by omega) (by omega))]
    rfl
  | succ n ih =>
    intro i s d hi hs hd
    rw [rX2_beginOfSpan_4]
    simp only [rX2_beginOfSpan_0, rX2_beginOfSpan_1, rX2_beginOfSpan_2, rX2_beginOfSpan_3, rX2_beginOfSpan_5, rX2_beginOfSpan_6, rX2_beginOfSpan_9, rX2_beginOfSpan_12, rX2_beginOfSpan_15, rX2_beginOfSpan_16, rX2_beginOfSpan_17, rX2_beginOfSpan_20, rX2_beginOfSpan_23, rX2_beginOfSpan_24, rX2_beginOfSpan_25, rX2_beginOfSpan_28, rX2_beginOfSpan_29, rX2_beginOfSpan_30, rX2_beginOfSpan_33, rX2_beginOfSpan_36, rX2_beginOfSpan_39, rX2_beginOfSpan_40, o1, o2, r1, r.1, true_and, rf_some]
    rw [if_neg (nI_ge (show i < l.length by omega) (by omega)), c_beginsSpan ok pt (by omega) (by omega)]
    simp only [tl_some, rX2_beginOfSpan_0, rX2_beginOfSpan_1, rX2_beginOfSpan_2, rX2_beginOfSpan_3, rX2_beginOfSpan_5, rX2_beginOfSpan_6, rX2_beginOfSpan_9, rX2_beginOfSpan_12, rX2_beginOfSpan_15, rX2_beginOfSpan_16, rX2_beginOfSpan_17, rX2_beginOfSpan_20, rX2_beginOfSpan_23, rX2_beginOfSpan_24, rX2_beginOfSpan_25, rX2_beginOfSpan_28, rX2_beginOfSpan_29, rX2_beginOfSpan_30, rX2_beginOfSpan_33, rX2_beginOfSpan_36, rX2_beginOfSpan_39, rX2_beginOfSpan_40, nI_1, fndF]
    have hs31 : (nI s).toInt = (s : Int) := nI_toInt (by omega)
    by_cases e : begC c i = true
    · rw [if_pos e, if_neg (by decide), if_pos e]
      by_cases e2 : d = 0
      · have e3 : nI s = k := by apply Int32.toInt_inj.mp; rw [hs31, hd, e2]; simp
        rw [if_neg (fun q => q e3), if_pos e2]
        rfl
      · have e3 : ¬ nI s = k := by intro q; rw [← q, hs31] at hd; omega
        rw [if_pos e3, if_neg e2, ih (i + 1) (s + 1) (d - 1) (by omega) (by omega) (by omega)]
    · rw [if_neg e, if_pos rfl, ih (i + 1) s d (by omega) (by omega) hd, if_neg e]
theorem c_beginOfSpan {k : Int32} {d : Nat} (hk : k.toInt = (d : Int)) (ok : lnOK w Q b) (r : rowIs I (b + 1) (b + 2) l) (hl : l.length ≤ 30) (hc : c.length = l.length) (pt : ptIs I b c) : WP mX2_beginOfSpan 0 [.ref b, .int k, .null, .null] [] w (I, Q, J) K ↔ K (some (.int (optI (fndF (begC c) l.length 0 d)))) w (I, Q, J) := by
  have e : (0 : Int32) = nI 0 := nI_0.symm
  simp only [rX2_beginOfSpan_0, rX2_beginOfSpan_1, rX2_beginOfSpan_2, rX2_beginOfSpan_3, rX2_beginOfSpan_5, rX2_beginOfSpan_6, rX2_beginOfSpan_9, rX2_beginOfSpan_12, rX2_beginOfSpan_15, rX2_beginOfSpan_16, rX2_beginOfSpan_17, rX2_beginOfSpan_20, rX2_beginOfSpan_23, rX2_beginOfSpan_24, rX2_beginOfSpan_25, rX2_beginOfSpan_28, rX2_beginOfSpan_29, rX2_beginOfSpan_30, rX2_beginOfSpan_33, rX2_beginOfSpan_36, rX2_beginOfSpan_39, rX2_beginOfSpan_40]
  rw [e, c_beginOfSpan_loop ok r hl hc pt l.length 0 0 d (by omega) (by omega) (by omega)]
theorem c_endOfSpan_loop {k : Int32} (ok : lnOK w Q b) (r : rowIs I (b + 1) (b + 2) l) (hl : l.length ≤ 30) (hc : c.length = l.length) (pt : ptIs I b c) : ∀ n i, n + i = l.length → (WP mX2_endOfSpan 4 [.ref b, .int k, .int (nI i)] [] w (I, Q, J) K ↔ K (some (.int (nI (endF (begC c) n i)))) w (I, Q, J)) := by
  obtain ⟨o1, o2, o3, o4, o5, ⟨r1, r2, r3, r4, r5, r6⟩, o7, o8, o9⟩ := id ok
  intro n
  induction n with
  | zero =>
    intro i hi
    rw [rX2_endOfSpan_4]
    simp only [rX2_endOfSpan_0, rX2_endOfSpan_1, rX2_endOfSpan_2, rX2_endOfSpan_3, rX2_endOfSpan_5, rX2_endOfSpan_6, rX2_endOfSpan_9, rX2_endOfSpan_12, rX2_endOfSpan_15, rX2_endOfSpan_16, rX2_endOfSpan_17, rX2_endOfSpan_20, rX2_endOfSpan_23, rX2_endOfSpan_24, rX2_endOfSpan_25, rX2_endOfSpan_28, rX2_endOfSpan_31, rX2_endOfSpan_32, rX2_endOfSpan_35, rX2_endOfSpan_38, o1, o2, r1, r.1, true_and, rf_some]
    rw [if_pos (nI_le (show l.length ≤ i by omega) (by omega)), show l.length = i by omega]
    rfl
  | succ n ih =>
    intro i hi
    rw [rX2_endOfSpan_4]
    simp only [rX2_endOfSpan_0, rX2_endOfSpan_1, rX2_endOfSpan_2, rX2_endOfSpan_3, rX2_endOfSpan_5, rX2_endOfSpan_6, rX2_endOfSpan_9, rX2_endOfSpan_12, rX2_endOfSpan_15, rX2_endOfSpan_16, rX2_endOfSpan_17, rX2_endOfSpan_20, rX2_endOfSpan_23, rX2_endOfSpan_24, rX2_endOfSpan_25, rX2_endOfSpan_28, rX2_endOfSpan_31, rX2_endOfSpan_32, rX2_endOfSpan_35, rX2_endOfSpan_38, o1, o2, r1, r.1, true_and, rf_some]
    rw [if_neg (nI_ge (show i < l.length by omega) (by omega)), c_beginsSpan ok pt (by omega) (by omega)]
    simp only [tl_some, rX2_endOfSpan_0, rX2_endOfSpan_1, rX2_endOfSpan_2, rX2_endOfSpan_3, rX2_endOfSpan_5, rX2_endOfSpan_6, rX2_endOfSpan_9, rX2_endOfSpan_12, rX2_endOfSpan_15, rX2_endOfSpan_16, rX2_endOfSpan_17, rX2_endOfSpan_20, rX2_endOfSpan_23, rX2_endOfSpan_24, rX2_endOfSpan_25, rX2_endOfSpan_28, rX2_endOfSpan_31, rX2_endOfSpan_32, rX2_endOfSpan_35, rX2_endOfSpan_38, nI_1, endF]
    by_cases e : begC c i = true
    · rw [if_pos e, if_neg (by decide), if_pos e]
    · rw [if_neg e, if_pos rfl, ih (i + 1) (by omega), if_neg e]
theorem c_endOfSpan {i : Nat} (ok : lnOK w Q b) (r : rowIs I (b + 1) (b + 2) l) (hl : l.length ≤ 30) (hc : c.length = l.length) (pt : ptIs I b c) (hi : i < l.length) : WP mX2_endOfSpan 0 [.ref b, .int (nI i), .null] [] w (I, Q, J) K ↔ K (some (.int (nI (endF (begC c) (l.length - (i + 1)) (i + 1))))) w (I, Q, J) := by
  simp only [rX2_endOfSpan_0, rX2_endOfSpan_1, rX2_endOfSpan_2, rX2_endOfSpan_3, rX2_endOfSpan_5, rX2_endOfSpan_6, rX2_endOfSpan_9, rX2_endOfSpan_12, rX2_endOfSpan_15, rX2_endOfSpan_16, rX2_endOfSpan_17, rX2_endOfSpan_20, rX2_endOfSpan_23, rX2_endOfSpan_24, rX2_endOfSpan_25, rX2_endOfSpan_28, rX2_endOfSpan_31, rX2_endOfSpan_32, rX2_endOfSpan_35, rX2_endOfSpan_38, nI_1]
  exact c_endOfSpan_loop ok r hl hc pt (l.length - (i + 1)) (i + 1) (by omega)
end LN
