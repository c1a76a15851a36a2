section C6
variable {w : WS} {I : Nat → Nat → Int32} {Q : Nat → Nat → Option Nat} {J : Nat → Nat → Int64} {S : SP}
/-- all lines painted anew: as many as there are -/
theorem anew_all {sm : Nat → Bool} {last : Nat} : ∀ n k, n + k ≤ last → anewP sm last n k = n
  | 0, _, _ => rfl
  | n + 1, k, h => by
    simp only [anewP]
    rw [show decide (last ≤ k) = false from decide_eq_false (by omega)]
    simp only [Bool.false_and, Bool.false_eq_true, if_false]
    rw [anew_all n (k + 1) (by omega)]; omega
theorem C_rewords {π : Nat → Nat} {nx nx' : Nat} {W' : List (List Int32)} {I1 I2 : Nat → Nat → Int32} (g : gOK w Q) (hp : piOK Q π) (rc : RC I π nx S) (hv : SV S) (h1 : hsIs I1 nx' ((S.2.1 :: S.2.2.1).take 5)) (f1 : Fr (fun c => 92 ≤ c ∧ c < 269) I I1) (w2 : wdIs I2 76 78 W') (hW : wdV W') (f2 : Fr (fun c => c = 76 ∨ (78 ≤ c ∧ c < 78 + 8)) I1 I2) : ∃ I3, CS w (u2 I3 1 4 (nI S.2.1.1.length)) Q (chS S (S.2.1.1, W', S.2.1.2.2) S.2.1.1.length) ∧ Fr (fun c => inkS c) I2 I3 ∧ ∀ K, (WP mX3_repaint 0 [.ref 4, .int (nI 0), .int (nI S.2.1.1.length), .null, .null, .null, .null] [] w (I2, Q, J) K ↔ K (some (.int (nI S.2.1.1.length))) w (I3, Q, J)) := by
  obtain ⟨r1, r2, r3, r4, r5, r6, r7, r8, r9⟩ := id rc
  have hl10 := hv.2.1.1.1
  have e : ∀ c, c < 76 → I2 c = I c := fun c hc => (f2 c (by omega)).trans (f1 c (by omega))
  have e8 : ∀ c, 86 ≤ c → c < 92 → I2 c = I c := fun c hc hc2 => (f2 c (by omega)).trans (f1 c (by omega))
  refine C_paint (J := J) (Z := (S.2.1.1, W', S.2.1.2.2)) (first := 0) (last := S.2.1.1.length) (nw := fun _ => false) (E := fun j => stAt S.2.1.2.1 S.2.1.1 (j + 1)) g hp (fun k hk => (hp.1 k hk).2) rc hv h1 f1 (f2.wk (fun c z => by omega)) ⟨by rw [e 4 (by omega)]; exact r2.1, fun k hk => ?_⟩ w2 (r4.fr (e8 _ (by omega) (by omega)) (e8 _ (by omega) (by omega)) (e8 _ (by omega) (by omega))) ⟨hv.2.1.1, hW, hv.2.1.2.2⟩ (fun j => stAt_ok _ _ _) hl10 (Nat.zero_le _) ⟨fun j hj => by omega, fun j _ hj => ?_, fun j _ q1 q2 => ?_⟩ (r9.fr (fun c _ hc => e c hc)) ?_
  · have hk' : k < S.2.1.1.length := hk
    have := (hp.1 k (by omega)).2
    exact (r2.2 k hk).fr (e _ (by omega)) (e _ (by omega))
  · have hj' : j < S.2.1.1.length := hj
    have := (hp.1 j (by omega)).2
    exact ⟨by rw [e _ (by omega), (r8 j hj').2.2]; rfl, fun _ => (r8 j hj').2.1.fr (e _ (by omega)) (e _ (by omega))⟩
  · have q3 : j + 1 < S.2.1.1.length := q2
    have q4 : S.2.1.1.length ≤ j := q1
    omega
  · exact (anew_all S.2.1.1.length 0 (Nat.le_refl _)).symm
theorem c_isWord_loop {a s : Nat} {l : List Int32} {K : Option Value → WS → HS → Prop} (ok : rowOK w Q a s 30) (r : rowIs I a s l) (hl : l.length ≤ 30) : ∀ n k, n + k = l.length → (WP mX9_isWordLike 20 [.ref a, .int (nI k)] [] w (I, Q, J) K ↔ K (some (.int (if ∀ c ∈ l.drop k, isL c then 1 else 0))) w (I, Q, J)) := by
  intro n
  induction n with
  | zero =>
    intro k hk
    rw [rX9_isWordLike_20]
    simp only [rX9_isWordLike_0, rX9_isWordLike_1, rX9_isWordLike_4, rX9_isWordLike_5, rX9_isWordLike_8, rX9_isWordLike_9, rX9_isWordLike_12, rX9_isWordLike_13, rX9_isWordLike_16, rX9_isWordLike_17, rX9_isWordLike_18, rX9_isWordLike_19, rX9_isWordLike_21, rX9_isWordLike_22, rX9_isWordLike_25, rX9_isWordLike_28, rX9_isWordLike_29, rX9_isWordLike_30, rX9_isWordLike_33, rX9_isWordLike_36, rX9_isWordLike_39, rX9_isWordLike_40, rX9_isWordLike_41, rX9_isWordLike_44, rX9_isWordLike_47, rX9_isWordLike_48, ok.1, r.1, true_and]
    rw [if_pos (nI_le (show l.length ≤ k by omega) (by omega)), if_pos (by rw [List.drop_eq_nil_of_le (by omega)]; simp)]; simp
  | succ n ih =>
    intro k hk
    have hkl : k < l.length := by omega
    rw [rX9_isWordLike_20]
    simp only [rX9_isWordLike_21, rX9_isWordLike_22, rX9_isWordLike_25, rX9_isWordLike_28, rX9_isWordLike_29, rX9_isWordLike_30, ok.1, r.1, true_and]
    rw [if_neg (nI_ge hkl (by omega)), c_signAt ok r hl (by omega), if_pos hkl]
    simp only [tl_some, rX9_isWordLike_33]
    rw [c_isLetter]
    simp only [tl_some, rX9_isWordLike_36, rX9_isWordLike_39, rX9_isWordLike_40, rX9_isWordLike_41, rX9_isWordLike_44, nI_1]
    have hd : l.drop k = l.getD k 0 :: l.drop (k + 1) := by
      rw [List.drop_eq_getElem_cons hkl, List.getD_eq_getElem?_getD, List.getElem?_eq_getElem hkl]; rfl
    by_cases q : 97 ≤ l.getD k 0 ∧ l.getD k 0 ≤ 122
    · rw [if_pos q, ih (k + 1) (by omega), hd]
      simp only [List.mem_cons, forall_eq_or_imp, isL, q, true_and, and_self]
      rw [if_pos (by decide)]
    · rw [if_neg q, if_neg (by decide), hd, if_neg (fun z => q (z _ (List.mem_cons_self ..)))]; simp
theorem c_isWord {a s : Nat} {l : List Int32} {K : Option Value → WS → HS → Prop} (ok : rowOK w Q a s 30) (r : rowIs I a s l) (hl : l.length ≤ 30) : WP mX9_isWordLike 0 [.ref a, .null] [] w (I, Q, J) K ↔ K (some (.int (if wrdI l then 1 else 0))) w (I, Q, J) := by
  have h20 := c_isWord_loop (J := J) (K := K) ok r hl l.length 0 (by omega)
  simp only [rX9_isWordLike_0, rX9_isWordLike_1, rX9_isWordLike_4, rX9_isWordLike_5, rX9_isWordLike_8, rX9_isWordLike_9, rX9_isWordLike_12, rX9_isWordLike_13, rX9_isWordLike_16, rX9_isWordLike_17, rX9_isWordLike_18, rX9_isWordLike_19, ok.1, r.1, true_and]
  by_cases q1 : l.length < 1
  · rw [if_pos (show nI l.length < 1 from nI_lt (show l.length < 1 by omega) (by decide)), if_neg (fun z => by have := z.1.1; omega)]; simp
  · rw [if_neg (show ¬ nI l.length < 1 from nI_nlt (show 1 ≤ l.length by omega) (by omega))]
    by_cases q2 : l.length ≤ 5
    · rw [if_pos (show nI l.length ≤ 5 from nI_le q2 (by decide))]
      rw [show (0 : Int32) = nI 0 from rfl] at *
      rw [h20]
      simp only [List.drop_zero, show wrdI l ↔ ∀ c ∈ l, isL c from ⟨fun z => z.2, fun z => ⟨⟨by omega, q2⟩, z⟩⟩]
    · rw [if_neg (show ¬ nI l.length ≤ 5 from nI_ge (show 5 < l.length by omega) (by omega)), if_neg (fun z => q2 z.1.2)]; simp
end C6
