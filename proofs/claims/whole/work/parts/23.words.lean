/-! ===== words, rules ===== -/
/-- the words at a: rows at r0, r0 + 2 .. (bytes behind each), the array of rows at q -/
def wdOK (w : WS) (Q : Nat → Nat → Option Nat) (a q r0 : Nat) : Prop := w.1 a = (8, 0) ∧ Q a 0 = some q ∧ w.1 q = (22, 4) ∧ (∀ k, k < 4 → Q q k = some (r0 + 2 * k) ∧ rowOK w Q (r0 + 2 * k) (r0 + 2 * k + 1) 5) ∧ a < r0 ∧ q < r0
def wdIs (I : Nat → Nat → Int32) (a r0 : Nat) (W : List (List Int32)) : Prop := I a 1 = nI W.length ∧ ∀ k, k < W.length → rowIs I (r0 + 2 * k) (r0 + 2 * k + 1) (W.getD k [])
def wdV (W : List (List Int32)) : Prop := W.length ≤ 4 ∧ ∀ k, k < W.length → 1 ≤ (W.getD k []).length ∧ (W.getD k []).length ≤ 5
theorem wdIs.fr {I I' : Nat → Nat → Int32} {a r0 : Nat} {W : List (List Int32)} (h : wdIs I a r0 W) (hW : W.length ≤ 4) (ha : I' a = I a) (hr : ∀ c, r0 ≤ c → c < r0 + 8 → I' c = I c) : wdIs I' a r0 W := ⟨by rw [ha]; exact h.1, fun k hk => (h.2 k hk).fr (hr _ (by omega) (by omega)) (hr _ (by omega) (by omega))⟩
section WD
variable {w : WS} {I : Nat → Nat → Int32} {Q : Nat → Nat → Option Nat} {J : Nat → Nat → Int64} {K : Option Value → WS → HS → Prop} {a q r0 b s N : Nat} {W : List (List Int32)} {l : List Int32}
/-- whether the bytes f .. t - 1 of l are one of the words -/
def hasW (W : List (List Int32)) (v : List Int32) : Nat → Nat → Bool
  | 0, _ => false
  | n + 1, k => if v = W.getD k [] then true else hasW W v n (k + 1)
theorem c_has_loop {f t : Nat} (ok : wdOK w Q a q r0) (r : wdIs I a r0 W) (hW : wdV W) (ok2 : rowOK w Q b s N) (r2 : rowIs I b s l) (hN : l.length ≤ N) (hf : f ≤ t) (ht : t ≤ l.length) : ∀ n k, n + k = W.length → (WP mX8_has 3 [.ref a, .ref b, .int (nI f), .int (nI t), .int (nI k)] [] w (I, Q, J) K ↔ K (some (.int (if hasW W ((l.drop f).take (t - f)) n k then 1 else 0))) w (I, Q, J)) := by
  obtain ⟨o1, o2, o3, o4, o5, o6⟩ := id ok
  obtain ⟨W4, W5⟩ := id hW
  intro n
  induction n with
  | zero =>
    intro k hk
    rw [rX8_has_3]
    simp only [rX8_has_0, rX8_has_1, rX8_has_5, rX8_has_6, rX8_has_9, rX8_has_12, rX8_has_13, rX8_has_14, rX8_has_17, rX8_has_19, rX8_has_20, rX8_has_21, rX8_has_22, rX8_has_25, rX8_has_28, rX8_has_29, rX8_has_30, rX8_has_33, rX8_has_36, rX8_has_37, o1, r.1, true_and]
    rw [if_pos (nI_le (show W.length ≤ k by omega) (by omega))]
    simp [hasW]
  | succ n ih =>
    intro k hk
    have hk4 : k < 4 := by omega
    rw [rX8_has_3]
    simp only [rX8_has_0, rX8_has_1, rX8_has_5, rX8_has_6, rX8_has_9, rX8_has_12, rX8_has_13, rX8_has_14, rX8_has_17, rX8_has_19, rX8_has_20, rX8_has_21, rX8_has_22, rX8_has_25, rX8_has_28, rX8_has_29, rX8_has_30, rX8_has_33, rX8_has_36, rX8_has_37, o1, o2, o3, r.1, true_and, rf_some, vin_nI hk4 (by decide), nI_clamp (show k < 2 ^ 31 by omega), (o4 k hk4).1, ok2.1, or_true, true_or]
    rw [if_neg (nI_ge (show k < W.length by omega) (by omega)), c_holds ok2 r2 hN (o4 k hk4).2 (r.2 k (by omega)) (W5 k (by omega)).2 hf ht]
    simp only [tl_some, rX8_has_0, rX8_has_1, rX8_has_5, rX8_has_6, rX8_has_9, rX8_has_12, rX8_has_13, rX8_has_14, rX8_has_17, rX8_has_19, rX8_has_20, rX8_has_21, rX8_has_22, rX8_has_25, rX8_has_28, rX8_has_29, rX8_has_30, rX8_has_33, rX8_has_36, rX8_has_37, nI_1]
    by_cases e : (l.drop f).take (t - f) = W.getD k []
    · have eh : hasW W ((l.drop f).take (t - f)) (n + 1) k = true := by rw [hasW, if_pos e]
      rw [if_pos e, if_neg (by decide), eh]; simp
    · have eh : hasW W ((l.drop f).take (t - f)) (n + 1) k = hasW W ((l.drop f).take (t - f)) n (k + 1) := by rw [hasW, if_neg e]
      rw [if_neg e, if_pos rfl, ih (k + 1) (by omega), eh]
theorem c_has {f t : Nat} (ok : wdOK w Q a q r0) (r : wdIs I a r0 W) (hW : wdV W) (ok2 : rowOK w Q b s N) (r2 : rowIs I b s l) (hN : l.length ≤ N) (hf : f ≤ t) (ht : t ≤ l.length) : WP mX8_has 0 [.ref a, .ref b, .int (nI f), .int (nI t), .null] [] w (I, Q, J) K ↔ K (some (.int (if hasW W ((l.drop f).take (t - f)) W.length 0 then 1 else 0))) w (I, Q, J) := by
  have := c_has_loop (K := K) (J := J) ok r hW ok2 r2 hN hf ht W.length 0 (by omega)
  rw [nI_0] at this
  simp only [rX8_has_0, rX8_has_1, rX8_has_5, rX8_has_6, rX8_has_9, rX8_has_12, rX8_has_13, rX8_has_14, rX8_has_17, rX8_has_19, rX8_has_20, rX8_has_21, rX8_has_22, rX8_has_25, rX8_has_28, rX8_has_29, rX8_has_30, rX8_has_33, rX8_has_36, rX8_has_37]
  exact this
theorem c_wdCopy_loop {b q2 r2 : Nat} (ok : wdOK w Q a q r0) (ok2 : wdOK w Q b q2 r2) (hW : wdV W) (hd : a < r2 ∨ r2 + 8 ≤ a) (hd2 : b < r0 ∨ r0 + 8 ≤ b) (hd3 : r0 + 8 ≤ r2 ∨ r2 + 8 ≤ r0) : ∀ n k (I : Nat → Nat → Int32), n + k = W.length → I a 1 = nI W.length → wdIs I b r2 W → (∀ j, j < k → rowIs I (r0 + 2 * j) (r0 + 2 * j + 1) (W.getD j [])) → ∃ I', wdIs I' a r0 W ∧ Fr (fun c => r0 ≤ c ∧ c < r0 + 8) I I' ∧ ∀ K, (WP mX8_copyFrom 10 [.ref a, .ref b, .int (nI k)] [] w (I, Q, J) K ↔ K none w (I', Q, J)) := by
  obtain ⟨o1, o2, o3, o4, o5, o6⟩ := id ok
  obtain ⟨p1, p2, p3, p4, p5, p6⟩ := id ok2
  obtain ⟨W4, W5⟩ := id hW
  intro n
  induction n with
  | zero =>
    intro k I hk hc r hj
    refine ⟨I, ⟨hc, fun j hj2 => hj j (by omega)⟩, Fr.rf, fun K => ?_⟩
    rw [rX8_copyFrom_10]
    simp only [rX8_copyFrom_0, rX8_copyFrom_1, rX8_copyFrom_2, rX8_copyFrom_5, rX8_copyFrom_8, rX8_copyFrom_9, rX8_copyFrom_11, rX8_copyFrom_12, rX8_copyFrom_15, rX8_copyFrom_18, rX8_copyFrom_19, rX8_copyFrom_22, rX8_copyFrom_23, rX8_copyFrom_24, rX8_copyFrom_25, rX8_copyFrom_28, rX8_copyFrom_29, rX8_copyFrom_30, rX8_copyFrom_33, rX8_copyFrom_36, rX8_copyFrom_39, o1, hc, true_and]
    rw [if_pos (nI_le (show W.length ≤ k by omega) (by omega))]
  | succ n ih =>
    intro k I hk hc r hj
    have hk4 : k < 4 := by omega
    obtain ⟨I1, g1, g2, g3⟩ := c_rowCopy (J := J) (I := I) (o4 k hk4).2 (p4 k hk4).2 (r.2 k (by omega)) (W5 k (by omega)).2 (W5 k (by omega)).2 (by omega)
    have hfr : ∀ c, c ≠ r0 + 2 * k → c ≠ r0 + 2 * k + 1 → I1 c = I c := fun c h1 h2 => g2 c (fun z => by omega)
    obtain ⟨I', f1, f2, f3⟩ := ih (k + 1) I1 (by omega) (by rw [hfr a (by omega) (by omega)]; exact hc) (r.fr W4 (hfr b (by omega) (by omega)) (fun c h1 h2 => hfr c (by omega) (by omega))) (fun j hj2 => by
      by_cases e : j = k
      · subst e; exact g1
      · exact (hj j (by omega)).fr (hfr _ (by omega) (by omega)) (hfr _ (by omega) (by omega)))
    refine ⟨I', f1, Fr.tr g2 f2 (fun c z => by omega) (fun c z => z), fun K => ?_⟩
    rw [rX8_copyFrom_10]
    simp only [rX8_copyFrom_0, rX8_copyFrom_1, rX8_copyFrom_2, rX8_copyFrom_5, rX8_copyFrom_8, rX8_copyFrom_9, rX8_copyFrom_11, rX8_copyFrom_12, rX8_copyFrom_15, rX8_copyFrom_18, rX8_copyFrom_19, rX8_copyFrom_22, rX8_copyFrom_23, rX8_copyFrom_24, rX8_copyFrom_25, rX8_copyFrom_28, rX8_copyFrom_29, rX8_copyFrom_30, rX8_copyFrom_33, rX8_copyFrom_36, rX8_copyFrom_39, o1, o2, o3, p1, p2, p3, hc, true_and, rf_some, vin_nI hk4 (by decide), nI_clamp (show k < 2 ^ 31 by omega), (o4 k hk4).1, (p4 k hk4).1, (o4 k hk4).2.1, or_true, true_or]
    rw [if_neg (nI_ge (show k < W.length by omega) (by omega)), g3]
    simp only [tl_none, rX8_copyFrom_0, rX8_copyFrom_1, rX8_copyFrom_2, rX8_copyFrom_5, rX8_copyFrom_8, rX8_copyFrom_9, rX8_copyFrom_11, rX8_copyFrom_12, rX8_copyFrom_15, rX8_copyFrom_18, rX8_copyFrom_19, rX8_copyFrom_22, rX8_copyFrom_23, rX8_copyFrom_24, rX8_copyFrom_25, rX8_copyFrom_28, rX8_copyFrom_29, rX8_copyFrom_30, rX8_copyFrom_33, rX8_copyFrom_36, rX8_copyFrom_39, nI_1]
    exact f3 K
theorem c_wdCopy {b q2 r2 : Nat} (ok : wdOK w Q a q r0) (ok2 : wdOK w Q b q2 r2) (hW : wdV W) (r : wdIs I b r2 W) (hab : a ≠ b) (hd : a < r2 ∨ r2 + 8 ≤ a) (hd2 : b < r0 ∨ r0 + 8 ≤ b) (hd3 : r0 + 8 ≤ r2 ∨ r2 + 8 ≤ r0) : ∃ I', wdIs I' a r0 W ∧ Fr (fun c => c = a ∨ (r0 ≤ c ∧ c < r0 + 8)) I I' ∧ ∀ K, (WP mX8_copyFrom 0 [.ref a, .ref b, .null] [] w (I, Q, J) K ↔ K none w (I', Q, J)) := by
  have hfr : ∀ c, c ≠ a → u2 I a 1 (nI W.length) c = I c := fun c h1 => Fr_u2 c h1
  obtain ⟨I', g1, g2, g3⟩ := c_wdCopy_loop (J := J) ok ok2 hW hd hd2 hd3 W.length 0 (u2 I a 1 (nI W.length)) (by omega) u2_same (r.fr hW.1 (hfr b (by omega)) (fun c h1 h2 => hfr c (by omega))) (fun j hj => by omega)
  refine ⟨I', g1, Fr.tr Fr_u2 g2 (fun c z => Or.inl z) (fun c z => Or.inr z), fun K => ?_⟩
  have e := g3 K
  rw [nI_0] at e
  simp only [rX8_copyFrom_0, rX8_copyFrom_1, rX8_copyFrom_2, rX8_copyFrom_5, rX8_copyFrom_8, rX8_copyFrom_9, rX8_copyFrom_11, rX8_copyFrom_12, rX8_copyFrom_15, rX8_copyFrom_18, rX8_copyFrom_19, rX8_copyFrom_22, rX8_copyFrom_23, rX8_copyFrom_24, rX8_copyFrom_25, rX8_copyFrom_28, rX8_copyFrom_29, rX8_copyFrom_30, rX8_copyFrom_33, rX8_copyFrom_36, rX8_copyFrom_39, ok.1, ok2.1, r.1, true_and]
  exact e
theorem c_wdAdd (ok : wdOK w Q a q r0) (r : wdIs I a r0 W) (hW : wdV W) (h4 : W.length < 4) (ok2 : rowOK w Q b s N) (r2 : rowIs I b s l) (hN : l.length ≤ N) (hl : l.length ≤ 5) (hb : b < r0 ∨ r0 + 8 ≤ b) (hs : s < r0 ∨ r0 + 8 ≤ s) : ∃ I', wdIs I' a r0 (W ++ [l]) ∧ Fr (fun c => c = a ∨ (r0 ≤ c ∧ c < r0 + 8)) I I' ∧ ∀ K, (WP mX8_add 0 [.ref a, .ref b] [] w (I, Q, J) K ↔ K none w (I', Q, J)) := by
  obtain ⟨o1, o2, o3, o4, o5, o6⟩ := id ok
  obtain ⟨I1, g1, g2, g3⟩ := c_rowCopy (J := J) (I := I) (o4 W.length h4).2 ok2 r2 hN hl (by omega)
  have hfr : ∀ c, c ≠ r0 + 2 * W.length → c ≠ r0 + 2 * W.length + 1 → I1 c = I c := fun c h1 h2 => g2 c (fun z => by omega)
  refine ⟨u2 I1 a 1 (nI (W.length + 1)), ⟨?_, fun k hk => ?_⟩, Fr.tr g2 Fr_u2 (fun c z => by omega) (fun c z => Or.inl z), fun K => ?_⟩
  · rw [u2_same]; simp
  · have hk : k < W.length + 1 := by simpa using hk
    have e1 : ∀ c, c ≠ a → u2 I1 a 1 (nI (W.length + 1)) c = I1 c := fun c h => Fr_u2 c h
    by_cases e : k = W.length
    · subst e
      rw [show (W ++ [l]).getD W.length [] = l by simp]
      exact g1.fr (e1 _ (by omega)) (e1 _ (by omega))
    · rw [show (W ++ [l]).getD k [] = W.getD k [] by simp only [List.getD_eq_getElem?_getD]; rw [List.getElem?_append_left (by omega)]]
      exact (r.2 k (by omega)).fr ((e1 _ (by omega)).trans (hfr _ (by omega) (by omega))) ((e1 _ (by omega)).trans (hfr _ (by omega) (by omega)))
  · simp only [rX8_add_0, rX8_add_1, rX8_add_4, rX8_add_5, rX8_add_8, rX8_add_9, rX8_add_12, rX8_add_13, rX8_add_16, rX8_add_17, rX8_add_18, rX8_add_21, rX8_add_22, rX8_add_23, rX8_add_26, rX8_add_27, rX8_add_28, rX8_add_31, o1, o2, o3, r.1, true_and, rf_some, vin_nI h4 (by decide), nI_clamp (show W.length < 2 ^ 31 by omega), (o4 _ h4).1, (o4 _ h4).2.1, or_true, true_or]
    rw [if_neg (show ¬ (4 : Int32) ≤ nI W.length from nI_ge h4 (by decide)), g3]
    simp only [tl_none, rX8_add_0, rX8_add_1, rX8_add_4, rX8_add_5, rX8_add_8, rX8_add_9, rX8_add_12, rX8_add_13, rX8_add_16, rX8_add_17, rX8_add_18, rX8_add_21, rX8_add_22, rX8_add_23, rX8_add_26, rX8_add_27, rX8_add_28, rX8_add_31, o1, true_and, hfr a (by omega) (by omega), r.1, nI_1]
/-- the words that don't begin with a letter -/
def remF (x : Int32) (W : List (List Int32)) : Nat → Nat → List (List Int32)
  | 0, _ => []
  | n + 1, k => (if (W.getD k []).getD 0 0 = x then [] else [W.getD k []]) ++ remF x W n (k + 1)
theorem remF_len (x : Int32) (W : List (List Int32)) : ∀ n k, (remF x W n k).length ≤ n
  | 0, _ => Nat.le_refl _
  | n + 1, k => by
    have := remF_len x W n (k + 1)
    simp only [remF]
    split <;> simp <;> omega
theorem c_rem_loop {x : Int32} (ok : wdOK w Q a q r0) (hW : wdV W) : ∀ n k (V : List (List Int32)) (I : Nat → Nat → Int32), n + k = W.length → V.length ≤ k → I a 1 = nI W.length → (∀ j, j < V.length → rowIs I (r0 + 2 * j) (r0 + 2 * j + 1) (V.getD j [])) → (∀ j, k ≤ j → j < W.length → rowIs I (r0 + 2 * j) (r0 + 2 * j + 1) (W.getD j [])) → ∃ I', wdIs I' a r0 (V ++ remF x W n k) ∧ Fr (fun c => c = a ∨ (r0 ≤ c ∧ c < r0 + 8)) I I' ∧ ∀ K, (WP mX8_removeWith 4 [.ref a, .int x, .int (nI V.length), .int (nI k)] [] w (I, Q, J) K ↔ K (some (.int (nI (W.length - (V ++ remF x W n k).length)))) w (I', Q, J)) := by
  obtain ⟨o1, o2, o3, o4, o5, o6⟩ := id ok
  obtain ⟨W4, W5⟩ := id hW
  intro n
  induction n with
  | zero =>
    intro k V I hk hv hc hj1 hj2
    refine ⟨u2 I a 1 (nI V.length), ⟨by rw [u2_same]; simp [remF], fun j hj => ?_⟩, Fr_u2.wk (fun c z => Or.inl z), fun K => ?_⟩
    · simp only [remF, List.append_nil] at hj ⊢
      exact (hj1 j hj).fr (Fr_u2 _ (by omega)) (Fr_u2 _ (by omega))
    · rw [rX8_removeWith_4]
      simp only [rX8_removeWith_0, rX8_removeWith_1, rX8_removeWith_2, rX8_removeWith_3, rX8_removeWith_5, rX8_removeWith_6, rX8_removeWith_9, rX8_removeWith_12, rX8_removeWith_13, rX8_removeWith_16, rX8_removeWith_17, rX8_removeWith_18, rX8_removeWith_19, rX8_removeWith_22, rX8_removeWith_23, rX8_removeWith_26, rX8_removeWith_27, rX8_removeWith_30, rX8_removeWith_31, rX8_removeWith_32, rX8_removeWith_33, rX8_removeWith_36, rX8_removeWith_37, rX8_removeWith_38, rX8_removeWith_41, rX8_removeWith_44, rX8_removeWith_47, rX8_removeWith_50, rX8_removeWith_51, rX8_removeWith_54, rX8_removeWith_55, rX8_removeWith_56, rX8_removeWith_57, rX8_removeWith_58, rX8_removeWith_59, rX8_removeWith_62, rX8_removeWith_63, o1, hc, true_and]
      rw [if_pos (nI_le (show W.length ≤ k by omega) (by omega))]
      simp only [remF, List.append_nil, pk_sub (show V.length ≤ W.length by omega)]
  | succ n ih =>
    intro k V I hk hv hc hj1 hj2
    have hk4 : k < 4 := by omega
    have hv4 : V.length < 4 := by omega
    have hw := W5 k (by omega)
    have sg : ∀ {K : Option Value → WS → HS → Prop}, WP mX5_signAt 0 [.ref (r0 + 2 * k), .int 0] [] w (I, Q, J) K ↔ K (some (.int ((W.getD k []).getD 0 0))) w (I, Q, J) := by
      intro K
      have := c_signAt (K := K) (J := J) (i := 0) (o4 k hk4).2 (hj2 k (by omega) (by omega)) hw.2 (by omega)
      rw [nI_0, if_pos (by omega)] at this
      exact this
    by_cases e : (W.getD k []).getD 0 0 = x
    · obtain ⟨I', f1, f2, f3⟩ := ih (k + 1) V I (by omega) (by omega) hc hj1 (fun j h1 h2 => hj2 j (by omega) h2)
      refine ⟨I', ?_, f2, fun K => ?_⟩
      · rw [remF, if_pos e, List.nil_append]; exact f1
      · rw [rX8_removeWith_4]
        simp only [rX8_removeWith_0, rX8_removeWith_1, rX8_removeWith_2, rX8_removeWith_3, rX8_removeWith_5, rX8_removeWith_6, rX8_removeWith_9, rX8_removeWith_12, rX8_removeWith_13, rX8_removeWith_16, rX8_removeWith_17, rX8_removeWith_18, rX8_removeWith_19, rX8_removeWith_22, rX8_removeWith_23, rX8_removeWith_26, rX8_removeWith_27, rX8_removeWith_30, rX8_removeWith_31, rX8_removeWith_32, rX8_removeWith_33, rX8_removeWith_36, rX8_removeWith_37, rX8_removeWith_38, rX8_removeWith_41, rX8_removeWith_44, rX8_removeWith_47, rX8_removeWith_50, rX8_removeWith_51, rX8_removeWith_54, rX8_removeWith_55, rX8_removeWith_56, rX8_removeWith_57, rX8_removeWith_58, rX8_removeWith_59, rX8_removeWith_62, rX8_removeWith_63, o1, o2, o3, hc, true_and, rf_some, vin_nI hk4 (by decide), nI_clamp (show k < 2 ^ 31 by omega), (o4 k hk4).1, (o4 k hk4).2.1, or_true, true_or, sg, tl_some, nI_1]
        rw [if_neg (nI_ge (show k < W.length by omega) (by omega)), if_pos e, f3]
        rw [remF, if_pos e, List.nil_append]
    · have hcp : ∃ I1, rowIs I1 (r0 + 2 * V.length) (r0 + 2 * V.length + 1) (W.getD k []) ∧ Fr (fun c => c = r0 + 2 * V.length ∨ c = r0 + 2 * V.length + 1) I I1 ∧ ∀ K, (WP mX5_copyFrom 0 [.ref (r0 + 2 * V.length), .ref (r0 + 2 * k)] [] w (I, Q, J) K ↔ K none w (I1, Q, J)) := by
        by_cases ev : V.length = k
        · rw [ev]; exact c_rowSelf (o4 k hk4).2 (hj2 k (by omega) (by omega)) hw.2
        · exact c_rowCopy (o4 _ hv4).2 (o4 k hk4).2 (hj2 k (by omega) (by omega)) hw.2 hw.2 (by omega)
      obtain ⟨I1, g1, g2, g3⟩ := hcp
      have hfr : ∀ c, c ≠ r0 + 2 * V.length → c ≠ r0 + 2 * V.length + 1 → I1 c = I c := fun c h1 h2 => g2 c (fun z => by omega)
      obtain ⟨I', f1, f2, f3⟩ := ih (k + 1) (V ++ [W.getD k []]) I1 (by omega) (by simp; omega) (by rw [hfr a (by omega) (by omega)]; exact hc) (fun j hj => by
        have hj : j < V.length + 1 := by simpa using hj
        by_cases ej : j = V.length
        · subst ej
          rw [show (V ++ [W.getD k []]).getD V.length [] = W.getD k [] by simp]
          exact g1
        · rw [show (V ++ [W.getD k []]).getD j [] = V.getD j [] by simp only [List.getD_eq_getElem?_getD]; rw [List.getElem?_append_left (by omega)]]
          exact (hj1 j (by omega)).fr (hfr _ (by omega) (by omega)) (hfr _ (by omega) (by omega))) (fun j h1 h2 => (hj2 j (by omega) h2).fr (hfr _ (by omega) (by omega)) (hfr _ (by omega) (by omega)))
      have el : V ++ remF x W (n + 1) k = V ++ [W.getD k []] ++ remF x W n (k + 1) := by rw [remF, if_neg e, List.append_assoc]
      refine ⟨I', ?_, Fr.tr g2 f2 (fun c z => by omega) (fun c z => z), fun K => ?_⟩
      · rw [el]; exact f1
      · rw [rX8_removeWith_4]
        simp only [rX8_removeWith_0, rX8_removeWith_1, rX8_removeWith_2, rX8_removeWith_3, rX8_removeWith_5, rX8_removeWith_6, rX8_removeWith_9, rX8_removeWith_12, rX8_removeWith_13, rX8_removeWith_16, rX8_removeWith_17, rX8_removeWith_18, rX8_removeWith_19, rX8_removeWith_22, rX8_removeWith_23, rX8_removeWith_26, rX8_removeWith_27, rX8_removeWith_30, rX8_removeWith_31, rX8_removeWith_32, rX8_removeWith_33, rX8_removeWith_36, rX8_removeWith_37, rX8_removeWith_38, rX8_removeWith_41, rX8_removeWith_44, rX8_removeWith_47, rX8_removeWith_50, rX8_removeWith_51, rX8_removeWith_54, rX8_removeWith_55, rX8_removeWith_56, rX8_removeWith_57, rX8_removeWith_58, rX8_removeWith_59, rX8_removeWith_62, rX8_removeWith_63, o1, o2, o3, hc, true_and, rf_some, vin_nI hk4 (by decide), vin_nI hv4 (by decide), nI_clamp (show k < 2 ^ 31 by omega), nI_clamp (show V.length < 2 ^ 31 by omega), (o4 k hk4).1, (o4 k hk4).2.1, (o4 _ hv4).1, (o4 _ hv4).2.1, or_true, true_or, sg, tl_some, nI_1]
        rw [if_neg (nI_ge (show k < W.length by omega) (by omega)), if_neg e, g3]
        simp only [tl_none, rX8_removeWith_0, rX8_removeWith_1, rX8_removeWith_2, rX8_removeWith_3, rX8_removeWith_5, rX8_removeWith_6, rX8_removeWith_9, rX8_removeWith_12, rX8_removeWith_13, rX8_removeWith_16, rX8_removeWith_17, rX8_removeWith_18, rX8_removeWith_19, rX8_removeWith_22, rX8_removeWith_23, rX8_removeWith_26, rX8_removeWith_27, rX8_removeWith_30, rX8_removeWith_31, rX8_removeWith_32, rX8_removeWith_33, rX8_removeWith_36, rX8_removeWith_37, rX8_removeWith_38, rX8_removeWith_41, rX8_removeWith_44, rX8_removeWith_47, rX8_removeWith_50, rX8_removeWith_51, rX8_removeWith_54, rX8_removeWith_55, rX8_removeWith_56, rX8_removeWith_57, rX8_removeWith_58, rX8_removeWith_59, rX8_removeWith_62, rX8_removeWith_63, nI_1]
        have := f3 K
        rw [List.length_append] at this
        rw [el]
        exact this
theorem c_rem {x : Int32} (ok : wdOK w Q a q r0) (hW : wdV W) (r : wdIs I a r0 W) : ∃ I', wdIs I' a r0 (remF x W W.length 0) ∧ Fr (fun c => c = a ∨ (r0 ≤ c ∧ c < r0 + 8)) I I' ∧ ∀ K, (WP mX8_removeWith 0 [.ref a, .int x, .null, .null] [] w (I, Q, J) K ↔ K (some (.int (nI (W.length - (remF x W W.length 0).length)))) w (I', Q, J)) := by
  obtain ⟨I', g1, g2, g3⟩ := c_rem_loop (J := J) (x := x) ok hW W.length 0 [] I (by omega) (by simp) r.1 (fun j hj => by simp at hj) (fun j _ h2 => r.2 j h2)
  refine ⟨I', g1, g2, fun K => ?_⟩
  have e := g3 K
  rw [List.length_nil, nI_0, List.nil_append] at e
  simp only [rX8_removeWith_0, rX8_removeWith_1, rX8_removeWith_2, rX8_removeWith_3, rX8_removeWith_5, rX8_removeWith_6, rX8_removeWith_9, rX8_removeWith_12, rX8_removeWith_13, rX8_removeWith_16, rX8_removeWith_17, rX8_removeWith_18, rX8_removeWith_19, rX8_removeWith_22, rX8_removeWith_23, rX8_removeWith_26, rX8_removeWith_27, rX8_removeWith_30, rX8_removeWith_31, rX8_removeWith_32, rX8_removeWith_33, rX8_removeWith_36, rX8_removeWith_37, rX8_removeWith_38, rX8_removeWith_41, rX8_removeWith_44, rX8_removeWith_47, rX8_removeWith_50, rX8_removeWith_51, rX8_removeWith_54, rX8_removeWith_55, rX8_removeWith_56, rX8_removeWith_57, rX8_removeWith_58, rX8_removeWith_59, rX8_removeWith_62, rX8_removeWith_63]
  exact e
end WD
