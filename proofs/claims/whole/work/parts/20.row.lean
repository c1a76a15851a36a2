/-! ===== small facts ===== -/
theorem rf_some (a : Nat) : va_rf (some a) = Value.ref a := rfl
theorem tl_some (v : Value) (r : List Value) : (some v).toList ++ r = v :: r := rfl
theorem tl_none (r : List Value) : (none : Option Value).toList ++ r = r := rfl
theorem vin_nI {n N : Nat} (h : n < N) (hN : N < 2 ^ 31) : vin (nI n) N := ⟨nI_pos (by omega), by rw [nI_clamp (by omega)]; exact h⟩
theorem cl0 : (0 : Int32).toNatClampNeg = 0 := by decide
theorem n00 : ¬ (0 : Int32) < 0 := by decide
theorem cl1 : (1 : Int32).toNatClampNeg = 1 := by decide
theorem u2_same {α : Type} {f : Nat → Nat → α} {a k : Nat} {v : α} : u2 f a k v a k = v := by simp [u2]
theorem u2_ne {α : Type} {f : Nat → Nat → α} {a k b j : Nat} {v : α} (h : b ≠ a ∨ j ≠ k) : u2 f a k v b j = f b j := by
  simp only [u2]; rw [if_neg]; omega
theorem uA_same {α : Type} {f : Nat → Nat → α} {a j : Nat} {g : Nat → α} : uA f a g a j = g j := by simp [uA]
theorem uA_ne {α : Type} {f : Nat → Nat → α} {a b j : Nat} {g : Nat → α} (h : b ≠ a) : uA f a g b j = f b j := by simp [uA, h]
theorem nI_inj {a b : Nat} (ha : a < 2 ^ 31) (hb : b < 2 ^ 31) (h : nI a = nI b) : a = b := (nI_eq ha hb).mp h
/-- nothing is written outside -/
def Fr (S : Nat → Prop) (I I' : Nat → Nat → Int32) : Prop := ∀ c, ¬ S c → I' c = I c
theorem Fr.rf {S : Nat → Prop} {I : Nat → Nat → Int32} : Fr S I I := fun _ _ => rfl
theorem Fr.tr {S S1 S2 : Nat → Prop} {I I1 I2 : Nat → Nat → Int32} (h1 : Fr S1 I I1) (h2 : Fr S2 I1 I2) (k1 : ∀ c, S1 c → S c) (k2 : ∀ c, S2 c → S c) : Fr S I I2 := fun c hc => (h2 c (fun q => hc (k2 c q))).trans (h1 c (fun q => hc (k1 c q)))
theorem Fr.wk {S S1 : Nat → Prop} {I I1 : Nat → Nat → Int32} (h1 : Fr S1 I I1) (k1 : ∀ c, S1 c → S c) : Fr S I I1 := fun c hc => h1 c (fun q => hc (k1 c q))
theorem Fr_u2 {I : Nat → Nat → Int32} {a k : Nat} {v : Int32} : Fr (fun c => c = a) I (u2 I a k v) := fun c hc => by funext j; simp [u2, hc]
theorem Fr_uA {I : Nat → Nat → Int32} {a : Nat} {g : Nat → Int32} : Fr (fun c => c = a) I (uA I a g) := fun c hc => by funext j; simp [uA, hc]
theorem getD_take {l : List Int32} {n j : Nat} (h : j < n) : (l.take n).getD j 0 = l.getD j 0 := by
  simp only [List.getD_eq_getElem?_getD, List.getElem?_take, h, if_true]
theorem getD_drop {l : List Int32} {n j : Nat} : (l.drop n).getD j 0 = l.getD (n + j) 0 := by
  simp only [List.getD_eq_getElem?_getD, List.getElem?_drop]

/-- a row of bytes at a (its bytes at s), with room for N -/
def rowOK (w : WS) (Q : Nat → Nat → Option Nat) (a s N : Nat) : Prop := w.1 a = (5, 0) ∧ Q a 0 = some s ∧ w.1 s = (20, N) ∧ s ≠ 0 ∧ s ≠ a ∧ N < 1000
def rowIs (I : Nat → Nat → Int32) (a s : Nat) (l : List Int32) : Prop := I a 1 = nI l.length ∧ ∀ j, j < l.length → I s j = l.getD j 0
theorem rowIs.fr {I I' : Nat → Nat → Int32} {a s : Nat} {l : List Int32} (h : rowIs I a s l) (ha : I' a = I a) (hs : I' s = I s) : rowIs I' a s l := ⟨by rw [ha]; exact h.1, fun j hj => by rw [hs]; exact h.2 j hj⟩
section ROW
variable {w : WS} {I : Nat → Nat → Int32} {Q : Nat → Nat → Option Nat} {J : Nat → Nat → Int64} {K : Option Value → WS → HS → Prop} {a s N b t M : Nat} {l m : List Int32}
theorem c_signAt {i : Nat} (ok : rowOK w Q a s N) (r : rowIs I a s l) (hN : l.length ≤ N) (hi : i < 2000) : WP mX5_signAt 0 [.ref a, .int (nI i)] [] w (I, Q, J) K ↔ K (some (.int (if i < l.length then l.getD i 0 else -1))) w (I, Q, J) := by
  obtain ⟨o1, o2, o3, o4, o5, o6⟩ := ok
  simp only [rX5_signAt_0, rX5_signAt_1, rX5_signAt_4, rX5_signAt_5, rX5_signAt_6, rX5_signAt_9, rX5_signAt_12, rX5_signAt_13, rX5_signAt_16, rX5_signAt_17, rX5_signAt_18, rX5_signAt_21, rX5_signAt_22, o1, o2, o3, rf_some, r.1, true_and, nI_pos (show i < 2 ^ 31 by omega), if_false]
  by_cases hl : i < l.length
  · rw [if_neg (nI_ge hl (by omega)), if_pos hl]
    simp only [vin_nI (show i < N by omega) (by omega), true_and, nI_clamp (show i < 2 ^ 31 by omega), r.2 i hl]
  · rw [if_pos (nI_le (by omega) (by omega)), if_neg hl]
/-- two rows' bytes, from .. to - 1 of the first against the second -/
theorem c_holds_loop {f x3 : Nat} (ok : rowOK w Q a s N) (r : rowIs I a s l) (hN : l.length ≤ N) (ok2 : rowOK w Q b t M) (r2 : rowIs I b t m) (hM : m.length ≤ M) (hf : f + m.length = x3) (hx : x3 ≤ l.length) :
    ∀ n i, n + i = m.length → (∀ j, j < i → l.getD (f + j) 0 = m.getD j 0) → (WP mX5_holds 27 [.ref a, .ref b, .int (nI f), .int (nI x3), .int (nI i)] [] w (I, Q, J) K ↔ K (some (.int (if (l.drop f).take m.length = m then 1 else 0))) w (I, Q, J)) := by
  obtain ⟨o1, o2, o3, o4, o5, o6⟩ := ok
  obtain ⟨p1, p2, p3, p4, p5, p6⟩ := ok2
  intro n
  induction n with
  | zero =>
    intro i hi hj
    have e : (l.drop f).take m.length = m := by
      apply List.ext_getElem
      · simp; omega
      · intro j h1 h2
        have := hj j (by omega)
        simp only [List.getElem_take, List.getElem_drop]
        rw [List.getD_eq_getElem?_getD, List.getD_eq_getElem?_getD, List.getElem?_eq_getElem (by omega), List.getElem?_eq_getElem (by omega)] at this
        simpa using this
    rw [rX5_holds_27]
    simp only [rX5_holds_0, rX5_holds_1, rX5_holds_4, rX5_holds_5, rX5_holds_6, rX5_holds_9, rX5_holds_12, rX5_holds_13, rX5_holds_14, rX5_holds_15, rX5_holds_16, rX5_holds_19, rX5_holds_22, rX5_holds_23, rX5_holds_24, rX5_holds_25, rX5_holds_29, rX5_holds_30, rX5_holds_33, rX5_holds_36, rX5_holds_37, rX5_holds_40, rX5_holds_41, rX5_holds_43, rX5_holds_44, rX5_holds_45, rX5_holds_46, rX5_holds_49, rX5_holds_51, rX5_holds_52, rX5_holds_55, rX5_holds_56, rX5_holds_57, rX5_holds_60, rX5_holds_63, rX5_holds_64, p1, r2.1, true_and]
    rw [if_pos (nI_le (by omega) (by omega)), if_pos e]
    simp
  | succ n ih =>
    intro i hi hj
    rw [rX5_holds_27]
    simp only [rX5_holds_0, rX5_holds_1, rX5_holds_4, rX5_holds_5, rX5_holds_6, rX5_holds_9, rX5_holds_12, rX5_holds_13, rX5_holds_14, rX5_holds_15, rX5_holds_16, rX5_holds_19, rX5_holds_22, rX5_holds_23, rX5_holds_24, rX5_holds_25, rX5_holds_29, rX5_holds_30, rX5_holds_33, rX5_holds_36, rX5_holds_37, rX5_holds_40, rX5_holds_41, rX5_holds_43, rX5_holds_44, rX5_holds_45, rX5_holds_46, rX5_holds_49, rX5_holds_51, rX5_holds_52, rX5_holds_55, rX5_holds_56, rX5_holds_57, rX5_holds_60, rX5_holds_63, rX5_holds_64, p1, p2, p3, o1, o2, o3, r.1, r2.1, true_and, rf_some, nI_add]
    rw [if_neg (nI_ge (by omega) (by omega))]
    simp only [vin_nI (show f + i < N by omega) (by omega), vin_nI (show i < M by omega) (by omega), true_and, nI_clamp (show f + i < 2 ^ 31 by omega), nI_clamp (show i < 2 ^ 31 by omega), r.2 (f + i) (by omega), r2.2 i (by omega)]
    by_cases e : l.getD (f + i) 0 = m.getD i 0
    · rw [if_pos e]
      rw [nI_1]
      exact ih (i + 1) (by omega) (fun j hj2 => by
        by_cases q : j = i
        · rw [q]; exact e
        · exact hj j (by omega))
    · rw [if_neg e]
      have e2 : ¬ (l.drop f).take m.length = m := by
        intro q
        apply e
        rw [← q, getD_take (by omega), getD_drop]
      rw [if_neg e2]
      simp
theorem c_holds {f x3 : Nat} (ok : rowOK w Q a s N) (r : rowIs I a s l) (hN : l.length ≤ N) (ok2 : rowOK w Q b t M) (r2 : rowIs I b t m) (hM : m.length ≤ M) (hf : f ≤ x3) (hx : x3 ≤ l.length) :
    WP mX5_holds 0 [.ref a, .ref b, .int (nI f), .int (nI x3), .null] [] w (I, Q, J) K ↔ K (some (.int (if (l.drop f).take (x3 - f) = m then 1 else 0))) w (I, Q, J) := by
  obtain ⟨o1, o2, o3, o4, o5, o6⟩ := id ok
  obtain ⟨p1, p2, p3, p4, p5, p6⟩ := id ok2
  simp only [rX5_holds_0, rX5_holds_1, rX5_holds_4, rX5_holds_5, rX5_holds_6, rX5_holds_9, rX5_holds_12, rX5_holds_13, rX5_holds_14, rX5_holds_15, rX5_holds_16, rX5_holds_19, rX5_holds_22, rX5_holds_23, rX5_holds_24, rX5_holds_25, rX5_holds_29, rX5_holds_30, rX5_holds_33, rX5_holds_36, rX5_holds_37, rX5_holds_40, rX5_holds_41, rX5_holds_43, rX5_holds_44, rX5_holds_45, rX5_holds_46, rX5_holds_49, rX5_holds_51, rX5_holds_52, rX5_holds_55, rX5_holds_56, rX5_holds_57, rX5_holds_60, rX5_holds_63, rX5_holds_64, o1, p1, r.1, r2.1, true_and, nI_pos (show f < 2 ^ 31 by omega), if_false, pk_sub hf]
  rw [if_neg (nI_nlt hx (by omega))]
  by_cases e : x3 - f = m.length
  · rw [if_pos (by rw [e])]
    rw [← nI_0, e]
    exact c_holds_loop ok r hN ok2 r2 hM (by omega) hx m.length 0 (by omega) (fun j hj => by omega)
  · rw [if_neg (fun q => e ((nI_eq (by omega) (by omega)).mp q))]
    have e2 : ¬ (l.drop f).take (x3 - f) = m := by
      intro q
      have := congrArg List.length q
      simp at this
      omega
    rw [if_neg e2]
    simp

theorem c_rowLike (ok : rowOK w Q a s N) (r : rowIs I a s l) (hN : l.length ≤ N) (ok2 : rowOK w Q b t M) (r2 : rowIs I b t m) (hM : m.length ≤ M) :
    WP mX5_isLike 0 [.ref a, .ref b] [] w (I, Q, J) K ↔ K (some (.int (if l = m then 1 else 0))) w (I, Q, J) := by
  have e : (0 : Int32) = nI 0 := nI_0.symm
  simp only [rX5_isLike_0, rX5_isLike_1, rX5_isLike_2, rX5_isLike_3, rX5_isLike_4, rX5_isLike_7, rX5_isLike_10, ok.1, r.1, true_and, e]
  rw [c_holds ok r hN ok2 r2 hM (Nat.zero_le _) (Nat.le_refl _)]
  simp only [tl_some, rX5_isLike_0, rX5_isLike_1, rX5_isLike_2, rX5_isLike_3, rX5_isLike_4, rX5_isLike_7, rX5_isLike_10]
  simp only [List.drop_zero, Nat.sub_zero, List.take_length]
  constructor
  · exact fun q => q.2
  · intro q
    refine ⟨?_, q⟩
    by_cases e2 : l = m
    · rw [if_pos e2]; exact Or.inr rfl
    · rw [if_neg e2]; exact Or.inl rfl
theorem c_rowCopy (ok : rowOK w Q a s N) (ok2 : rowOK w Q b t M) (r2 : rowIs I b t m) (hM : m.length ≤ M) (hN : m.length ≤ N) (hd : s ≠ b ∧ a ≠ t ∧ a ≠ b) :
    ∃ I', rowIs I' a s m ∧ Fr (fun c => c = a ∨ c = s) I I' ∧ ∀ K, (WP mX5_copyFrom 0 [.ref a, .ref b] [] w (I, Q, J) K ↔ K none w (I', Q, J)) := by
  obtain ⟨o1, o2, o3, o4, o5, o6⟩ := ok
  obtain ⟨p1, p2, p3, p4, p5, p6⟩ := ok2
  refine ⟨uA (u2 I a 1 (nI m.length)) s (va_cpy (I t) (I s) 0 0 m.length), ⟨?_, fun j hj => ?_⟩, ?_, fun K => ?_⟩
  · rw [uA_ne (fun q => o5 q.symm), u2_same]
  · rw [uA_same, pk_cpy_in (Nat.zero_le _) (by omega), Nat.zero_add, Nat.sub_zero]
    exact r2.2 j hj
  · exact Fr.tr Fr_u2 Fr_uA (fun c q => Or.inl q) (fun c q => Or.inr q)
  · have e1 : (if nI N < nI m.length then nI N else nI m.length) = nI m.length := if_neg (nI_nlt hN (by omega))
    simp only [rX5_copyFrom_0, rX5_copyFrom_1, rX5_copyFrom_2, rX5_copyFrom_5, rX5_copyFrom_6, rX5_copyFrom_9, rX5_copyFrom_10, rX5_copyFrom_13, rX5_copyFrom_16, rX5_copyFrom_17, rX5_copyFrom_20, rX5_copyFrom_21, rX5_copyFrom_22, rX5_copyFrom_25, rX5_copyFrom_26, rX5_copyFrom_27, rX5_copyFrom_30, rX5_copyFrom_33, o1, o2, o3, p1, p2, p3, rf_some, r2.1, true_and, true_or, e1, u2_same]
    simp only [ne_eq, p4, o4, not_false_eq_true, true_and, n00, nI_pos (show m.length < 2 ^ 31 by omega), cl0, nI_clamp (show m.length < 2 ^ 31 by omega), Nat.zero_add, hM, hN]
    have e3 : u2 I a 1 (nI m.length) t = I t := Fr_u2 t (fun q => hd.2.1 q.symm)
    have e4 : u2 I a 1 (nI m.length) s = I s := Fr_u2 s o5
    rw [e3, e4]
theorem c_rowSelf (ok : rowOK w Q a s N) (r2 : rowIs I a s m) (hN : m.length ≤ N) :
    ∃ I', rowIs I' a s m ∧ Fr (fun c => c = a ∨ c = s) I I' ∧ ∀ K, (WP mX5_copyFrom 0 [.ref a, .ref a] [] w (I, Q, J) K ↔ K none w (I', Q, J)) := by
  obtain ⟨o1, o2, o3, o4, o5, o6⟩ := ok
  refine ⟨uA (u2 I a 1 (nI m.length)) s (va_cpy (I s) (I s) 0 0 m.length), ⟨?_, fun j hj => ?_⟩, ?_, fun K => ?_⟩
  · rw [uA_ne (fun q => o5 q.symm), u2_same]
  · rw [uA_same, pk_cpy_in (Nat.zero_le _) (by omega), Nat.zero_add, Nat.sub_zero]
    exact r2.2 j hj
  · exact Fr.tr Fr_u2 Fr_uA (fun c q => Or.inl q) (fun c q => Or.inr q)
  · have e1 : (if nI N < nI m.length then nI N else nI m.length) = nI m.length := if_neg (nI_nlt hN (by omega))
    simp only [rX5_copyFrom_0, rX5_copyFrom_1, rX5_copyFrom_2, rX5_copyFrom_5, rX5_copyFrom_6, rX5_copyFrom_9, rX5_copyFrom_10, rX5_copyFrom_13, rX5_copyFrom_16, rX5_copyFrom_17, rX5_copyFrom_20, rX5_copyFrom_21, rX5_copyFrom_22, rX5_copyFrom_25, rX5_copyFrom_26, rX5_copyFrom_27, rX5_copyFrom_30, rX5_copyFrom_33, o1, o2, o3, rf_some, r2.1, true_and, true_or, e1, u2_same]
    simp only [ne_eq, o4, not_false_eq_true, true_and, n00, nI_pos (show m.length < 2 ^ 31 by omega), cl0, nI_clamp (show m.length < 2 ^ 31 by omega), Nat.zero_add, hN]
    have e4 : u2 I a 1 (nI m.length) s = I s := Fr_u2 s o5
    rw [e4]
theorem c_rowPut {i : Nat} {c : Int32} (ok : rowOK w Q a s N) (r : rowIs I a s l) (hi : i ≤ l.length) (hN : l.length < N) :
    ∃ I', rowIs I' a s (l.take i ++ c :: l.drop i) ∧ Fr (fun c => c = a ∨ c = s) I I' ∧ ∀ K, (WP mX5_put 0 [.ref a, .int (nI i), .int c] [] w (I, Q, J) K ↔ K none w (I', Q, J)) := by
  obtain ⟨o1, o2, o3, o4, o5, o6⟩ := ok
  refine ⟨u2 (u2 (uA I s (va_cpy (I s) (I s) i (i + 1) (l.length - i))) s i c) a 1 (nI (l.length + 1)), ⟨?_, fun j hj => ?_⟩, ?_, fun K => ?_⟩
  · rw [u2_same]; congr 1; simp; omega
  · rw [u2_ne (Or.inl o5)]
    have hj : j < l.length + 1 := by simp at hj; omega
    rw [List.getD_eq_getElem?_getD]
    by_cases e : j = i
    · subst e
      rw [u2_same, List.getElem?_append_right (by simp; omega)]
      simp [Nat.min_eq_left hi]
    · rw [u2_ne (Or.inr e), uA_same]
      by_cases e2 : j < i
      · rw [pk_cpy_out (Or.inl (by omega)), List.getElem?_append_left (by simp; omega), List.getElem?_take_of_lt e2, r.2 j (by omega), List.getD_eq_getElem?_getD]
      · rw [pk_cpy_in (by omega) (by omega), List.getElem?_append_right (by simp; omega), r.2 _ (by omega), List.getD_eq_getElem?_getD]
        simp only [List.length_take, Nat.min_eq_left hi]
        obtain ⟨d, rfl⟩ : ∃ d, j = i + 1 + d := ⟨j - (i + 1), by omega⟩
        rw [show i + 1 + d - i = d + 1 by omega, List.getElem?_cons_succ, List.getElem?_drop]
        congr 2
        omega
  · exact Fr.tr (Fr.tr Fr_uA Fr_u2 (fun c q => q) (fun c q => q)) Fr_u2 (fun c q => Or.inr q) (fun c q => Or.inl q)
  · have e0 : (uA I s (va_cpy (I s) (I s) i (i + 1) (l.length - i))) a = I a := Fr_uA a (fun q => o5 q.symm)
    simp only [rX5_put_0, rX5_put_1, rX5_put_4, rX5_put_5, rX5_put_6, rX5_put_9, rX5_put_12, rX5_put_13, rX5_put_16, rX5_put_17, rX5_put_20, rX5_put_21, rX5_put_24, rX5_put_25, rX5_put_26, rX5_put_29, rX5_put_30, rX5_put_31, rX5_put_34, rX5_put_35, rX5_put_36, rX5_put_37, rX5_put_38, rX5_put_41, rX5_put_42, rX5_put_43, rX5_put_46, rX5_put_47, rX5_put_50, rX5_put_51, rX5_put_52, rX5_put_53, rX5_put_54, rX5_put_55, rX5_put_58, rX5_put_59, rX5_put_60, rX5_put_63, o1, o2, o3, rf_some, r.1, true_and, true_or, nI_pos (show i < 2 ^ 31 by omega), if_false, nI_1, pk_sub hi]
    rw [if_neg (nI_nlt hi (by omega)), if_pos (nI_lt hN (by omega))]
    simp only [ne_eq, o4, not_false_eq_true, true_and, nI_pos (show i < 2 ^ 31 by omega), nI_pos (show i + 1 < 2 ^ 31 by omega), nI_pos (show l.length - i < 2 ^ 31 by omega), nI_clamp (show i < 2 ^ 31 by omega), nI_clamp (show i + 1 < 2 ^ 31 by omega), nI_clamp (show l.length - i < 2 ^ 31 by omega), vin_nI (show i < N by omega) (by omega), u2_ne (show a ≠ s ∨ 1 ≠ i from Or.inl (fun q => o5 q.symm)), e0, r.1, nI_1, show i + (l.length - i) ≤ N by omega, show i + 1 + (l.length - i) ≤ N by omega, and_true]
theorem c_rowErase {i : Nat} (ok : rowOK w Q a s N) (r : rowIs I a s l) (hi : i < l.length) (hN : l.length ≤ N) :
    ∃ I', rowIs I' a s (l.eraseIdx i) ∧ Fr (fun c => c = a ∨ c = s) I I' ∧ ∀ K, (WP mX5_erase 0 [.ref a, .int (nI i)] [] w (I, Q, J) K ↔ K none w (I', Q, J)) := by
  obtain ⟨o1, o2, o3, o4, o5, o6⟩ := ok
  refine ⟨u2 (uA I s (va_cpy (I s) (I s) (i + 1) i (l.length - i - 1))) a 1 (nI (l.length - 1)), ⟨?_, fun j hj => ?_⟩, ?_, fun K => ?_⟩
  · rw [u2_same, List.length_eraseIdx_of_lt hi]
  · rw [u2_ne (Or.inl o5), uA_same]
    rw [List.length_eraseIdx_of_lt hi] at hj
    rw [List.getD_eq_getElem?_getD, List.getElem?_eraseIdx]
    by_cases e2 : j < i
    · rw [if_pos e2, pk_cpy_out (Or.inl (by omega)), r.2 j (by omega), List.getD_eq_getElem?_getD]
    · rw [if_neg e2, pk_cpy_in (by omega) (by omega), r.2 _ (by omega), List.getD_eq_getElem?_getD]
      congr 2
      omega
  · exact Fr.tr Fr_uA Fr_u2 (fun c q => Or.inr q) (fun c q => Or.inl q)
  · have e0 : (uA I s (va_cpy (I s) (I s) (i + 1) i (l.length - i - 1))) a = I a := Fr_uA a (fun q => o5 q.symm)
    have e1 : nI (l.length - i) - 1 = nI (l.length - i - 1) := by
      have := pk_sub (show 1 ≤ l.length - i by omega); exact this
    have e2 : nI l.length - 1 = nI (l.length - 1) := pk_sub (show 1 ≤ l.length by omega)
    simp only [rX5_erase_0, rX5_erase_1, rX5_erase_4, rX5_erase_5, rX5_erase_6, rX5_erase_9, rX5_erase_12, rX5_erase_13, rX5_erase_14, rX5_erase_17, rX5_erase_18, rX5_erase_19, rX5_erase_20, rX5_erase_21, rX5_erase_24, rX5_erase_25, rX5_erase_26, rX5_erase_29, rX5_erase_30, rX5_erase_31, rX5_erase_32, rX5_erase_33, rX5_erase_36, rX5_erase_37, rX5_erase_38, rX5_erase_41, rX5_erase_42, rX5_erase_43, rX5_erase_46, o1, o2, o3, rf_some, r.1, true_and, true_or, nI_pos (show i < 2 ^ 31 by omega), if_false, nI_1, pk_sub (Nat.le_of_lt hi), e1]
    rw [if_pos (nI_lt hi (by omega))]
    simp only [ne_eq, o4, not_false_eq_true, true_and, nI_pos (show i < 2 ^ 31 by omega), nI_pos (show i + 1 < 2 ^ 31 by omega), nI_pos (show l.length - i - 1 < 2 ^ 31 by omega), nI_clamp (show i < 2 ^ 31 by omega), nI_clamp (show i + 1 < 2 ^ 31 by omega), nI_clamp (show l.length - i - 1 < 2 ^ 31 by omega), e0, r.1, e2, show i + (l.length - i - 1) ≤ N by omega, show i + 1 + (l.length - i - 1) ≤ N by omega, and_true]
theorem c_rowTail {i : Nat} (ok : rowOK w Q a s N) (r : rowIs I a s l) (hi : i ≤ l.length) (hN : l.length ≤ N) (ok2 : rowOK w Q b t M) (hM : l.length ≤ M) (hd : t ≠ a ∧ t ≠ s ∧ a ≠ b ∧ s ≠ b) :
    ∃ I', rowIs I' a s (l.take i) ∧ rowIs I' b t (l.drop i) ∧ Fr (fun c => c = a ∨ c = b ∨ c = t) I I' ∧ ∀ K, (WP mX5_moveTail 0 [.ref a, .int (nI i), .ref b] [] w (I, Q, J) K ↔ K none w (I', Q, J)) := by
  obtain ⟨o1, o2, o3, o4, o5, o6⟩ := ok
  obtain ⟨p1, p2, p3, p4, p5, p6⟩ := ok2
  refine ⟨u2 (u2 (uA I t (va_cpy (I s) (I t) i 0 (l.length - i))) b 1 (nI (l.length - i))) a 1 (nI i), ⟨?_, fun j hj => ?_⟩, ⟨?_, fun j hj => ?_⟩, ?_, fun K => ?_⟩
  · rw [u2_same]; simp [Nat.min_eq_left hi]
  · have hj : j < i := by simp at hj; omega
    rw [u2_ne (Or.inl o5), u2_ne (Or.inl hd.2.2.2), uA_ne (fun q => hd.2.1 q.symm), r.2 j (by omega), getD_take hj]
  · rw [u2_ne (Or.inl (fun q => hd.2.2.1 q.symm)), u2_same]; simp
  · have hj : j < l.length - i := by simpa using hj
    rw [u2_ne (Or.inl hd.1), u2_ne (Or.inl p5), uA_same, pk_cpy_in (Nat.zero_le _) (by omega), r.2 _ (by omega), getD_drop, Nat.sub_zero]
  · exact Fr.tr (Fr.tr (S := fun c => c = b ∨ c = t) Fr_uA Fr_u2 (fun c q => Or.inr q) (fun c q => Or.inl q)) Fr_u2 (fun c q => Or.inr q) (fun c q => Or.inl q)
  · have e0 : (uA I t (va_cpy (I s) (I t) i 0 (l.length - i))) a = I a := Fr_uA a (fun q => hd.1 q.symm)
    have e3 : u2 (uA I t (va_cpy (I s) (I t) i 0 (l.length - i))) b 1 (nI (l.length - i)) a = I a := (Fr_u2 a hd.2.2.1).trans e0
    simp only [rX5_moveTail_0, rX5_moveTail_1, rX5_moveTail_4, rX5_moveTail_5, rX5_moveTail_6, rX5_moveTail_9, rX5_moveTail_12, rX5_moveTail_13, rX5_moveTail_16, rX5_moveTail_17, rX5_moveTail_18, rX5_moveTail_19, rX5_moveTail_22, rX5_moveTail_23, rX5_moveTail_26, rX5_moveTail_27, rX5_moveTail_28, rX5_moveTail_31, rX5_moveTail_32, rX5_moveTail_33, rX5_moveTail_36, rX5_moveTail_37, rX5_moveTail_38, rX5_moveTail_41, rX5_moveTail_42, rX5_moveTail_43, rX5_moveTail_46, rX5_moveTail_47, rX5_moveTail_48, rX5_moveTail_51, rX5_moveTail_52, rX5_moveTail_53, rX5_moveTail_56, rX5_moveTail_57, rX5_moveTail_58, rX5_moveTail_61, o1, o2, o3, p1, p2, p3, rf_some, r.1, true_and, true_or, nI_pos (show i < 2 ^ 31 by omega), if_false, pk_sub hi]
    rw [if_neg (nI_nlt hi (by omega)), if_pos (nI_le (by omega) (by omega))]
    simp only [ne_eq, o4, p4, not_false_eq_true, true_and, n00, nI_pos (show i < 2 ^ 31 by omega), nI_pos (show l.length - i < 2 ^ 31 by omega), nI_clamp (show i < 2 ^ 31 by omega), cl0, nI_clamp (show l.length - i < 2 ^ 31 by omega), e0, r.1, pk_sub hi, show i + (l.length - i) ≤ N by omega, show 0 + (l.length - i) ≤ M by omega, and_true]
end ROW
