/-! ===== what can be gone back to ===== -/
abbrev ZS : Type := List (List Int32) × List (List Int32) × List RU
def zV (Z : ZS) : Prop := lsV Z.1 ∧ wdV Z.2.1 ∧ Z.2.2.length ≤ 12
def kpIs (I : Nat → Nat → Int32) (a : Nat) (Z : ZS) : Prop := I a 3 = nI Z.1.length ∧ (∀ k, k < Z.1.length → rowIs I (a + 2 + 2 * k) (a + 3 + 2 * k) (Z.1.getD k [])) ∧ wdIs I (a + 22) (a + 24) Z.2.1 ∧ rlIs I (a + 32) (a + 33) (a + 34) Z.2.2
theorem kpIs.fr {I I' : Nat → Nat → Int32} {a : Nat} {Z : ZS} (h : kpIs I a Z) (hz : zV Z) (e : ∀ c, a ≤ c → c < a + 35 → I' c = I c) : kpIs I' a Z := by
  have h10 := hz.1.1
  exact ⟨by rw [e a (by omega) (by omega)]; exact h.1, fun k hk => (h.2.1 k hk).fr (e _ (by omega) (by omega)) (e _ (by omega) (by omega)), h.2.2.1.fr hz.2.1.1 (e _ (by omega) (by omega)) (fun c h1 h2 => e c (by omega) (by omega)), h.2.2.2.fr (e _ (by omega) (by omega)) (e _ (by omega) (by omega)) (e _ (by omega) (by omega))⟩
section HI
variable {w : WS} {I : Nat → Nat → Int32} {Q : Nat → Nat → Option Nat} {J : Nat → Nat → Int64} {K : Option Value → WS → HS → Prop} {π : Nat → Nat} {ls : List (List Int32)} {W : List (List Int32)} {R : List RU}
theorem c_take_loop {a : Nat} (ha : 92 ≤ a) (g : gOK w Q) (hp : piOK Q π) (hl : lsV ls) (ok : kpOK w Q a) : ∀ n k (I : Nat → Nat → Int32), n + k = ls.length → I a 3 = nI ls.length → pgIs I π ls → (∀ j, j < k → rowIs I (a + 2 + 2 * j) (a + 3 + 2 * j) (ls.getD j [])) → ∃ I', (∀ j, j < ls.length → rowIs I' (a + 2 + 2 * j) (a + 3 + 2 * j) (ls.getD j [])) ∧ Fr (fun c => a + 2 ≤ c ∧ c < a + 22) I I' ∧ ∀ K, (WP mX1_take 10 [.ref a, .ref 4, .int (nI k)] [] w (I, Q, J) K ↔ WP mX1_take 42 [.ref a, .ref 4, .int (nI ls.length)] [] w (I', Q, J) K) := by
  obtain ⟨-, -, ⟨c1, c2, c3, c4, c5, c6⟩, lns, -⟩ := id g
  obtain ⟨o1, o2, o3, o4, o5, o6, o7, o8⟩ := id ok
  have hl10 := hl.1
  intro n
  induction n with
  | zero =>
    intro k I hn hc r hj
    refine ⟨I, fun j hj2 => hj j (by omega), Fr.rf, fun K => ?_⟩
    rw [rX1_take_10]
    simp only [rX1_take_11, rX1_take_12, rX1_take_15, o1, hc, true_and]
    rw [if_pos (nI_le (show ls.length ≤ k by omega) (by omega)), show k = ls.length by omega]
  | succ n ih =>
    intro k I hn hc r hj
    have hk10 : k < 10 := by omega
    have hpk := hp.1 k hk10
    have lk := lns (π k) hpk.2
    have l30 := hl.2 k (by omega)
    obtain ⟨I1, g1, g2, g3⟩ := c_rowCopy (I := I) (J := J) (o6 k hk10).2 lk.2.2.2.2.2.1 (r.2 k (by omega)) l30 l30 (by omega)
    have e : ∀ z, z ≠ a + 2 + 2 * k → z ≠ a + 3 + 2 * k → I1 z = I z := fun z q1 q2 => g2 z (by omega)
    obtain ⟨I', f1, f2, f3⟩ := ih (k + 1) I1 (by omega) (by rw [e a (by omega) (by omega)]; exact hc) ⟨by rw [e 4 (by omega) (by omega)]; exact r.1, fun j hj2 => (r.2 j hj2).fr (e _ (by have := (hp.1 j (by omega)).2; omega) (by have := (hp.1 j (by omega)).2; omega)) (e _ (by have := (hp.1 j (by omega)).2; omega) (by have := (hp.1 j (by omega)).2; omega))⟩ (fun j hj2 => by
      by_cases q : j = k
      · rw [q]; exact g1
      · exact (hj j (by omega)).fr (e _ (by omega) (by omega)) (e _ (by omega) (by omega)))
    refine ⟨I', f1, Fr.tr g2 f2 (fun c z => by omega) (fun c z => z), fun K => ?_⟩
    rw [rX1_take_10]
    simp only [rX1_take_11, rX1_take_12, rX1_take_15, rX1_take_18, rX1_take_19, rX1_take_22, rX1_take_23, rX1_take_24, rX1_take_25, rX1_take_28, rX1_take_29, rX1_take_30, rX1_take_33, rX1_take_36, rX1_take_39, o1, o2, o5, c1, c2, c6, hc, true_and, true_or, or_true, rf_some, vin_nI hk10 (by decide), nI_clamp (show k < 2 ^ 31 by omega), (o6 k hk10).1, (o6 k hk10).2.1, hpk.1, lk.1, lk.2.1]
    rw [if_neg (nI_ge (show k < ls.length by omega) (by omega)), g3]
    simp only [tl_none, rX1_take_11, rX1_take_12, rX1_take_15, rX1_take_18, rX1_take_19, rX1_take_22, rX1_take_23, rX1_take_24, rX1_take_25, rX1_take_28, rX1_take_29, rX1_take_30, rX1_take_33, rX1_take_36, rX1_take_39, nI_1]
    exact f3 K
theorem c_take {a : Nat} (ha : 92 ≤ a) (g : gOK w Q) (hp : piOK Q π) (hz : zV (ls, W, R)) (ok : kpOK w Q a) (r : pgIs I π ls) (rw0 : wdIs I 76 78 W) (rr : rlIs I 86 87 88 R) : ∃ I', kpIs I' a (ls, W, R) ∧ Fr (fun c => a ≤ c ∧ c < a + 35) I I' ∧ ∀ K, (WP mX1_take 0 [.ref a, .ref 4, .null] [] w (I, Q, J) K ↔ K none w (I', Q, J)) := by
  obtain ⟨-, -, ⟨c1, c2, c3, c4, c5, c6⟩, lns, pn, rl, -⟩ := id g
  obtain ⟨o1, o2, o3, o4, o5, o6, o7, o8⟩ := id ok
  have hz1 : lsV ls := hz.1
  have hz2 : wdV W := hz.2.1
  have hl10 := hz1.1
  have e0 : ∀ z, z ≠ a → u2 I a 3 (nI ls.length) z = I z := fun z q => Fr_u2 z q
  obtain ⟨I1, f1, f2, f3⟩ := c_take_loop (J := J) ha g hp hz1 ok ls.length 0 (u2 I a 3 (nI ls.length)) (by omega) u2_same ⟨by rw [e0 4 (by omega)]; exact r.1, fun j hj2 => (r.2 j hj2).fr (e0 _ (by have := (hp.1 j (by omega)).2; omega)) (e0 _ (by have := (hp.1 j (by omega)).2; omega))⟩ (fun j hj => by omega)
  have e1 : ∀ z, (z < a ∨ a + 35 ≤ z) → I1 z = I z := fun z q => (f2 z (by omega)).trans (e0 z (by omega))
  obtain ⟨I2, g1, g2, g3⟩ := c_wdCopy (I := I1) (J := J) o7 pn.2.2.2 hz2 (rw0.fr hz2.1 (e1 76 (by omega)) (fun c h1 h2 => e1 c (by omega))) (by omega) (by omega) (by omega) (by omega)
  have e2 : ∀ z, z ≠ a + 22 → (z < a + 24 ∨ a + 32 ≤ z) → I2 z = I1 z := fun z q1 q2 => g2 z (by omega)
  obtain ⟨I', k1, k2, k3⟩ := c_rlCopy (I := I2) (J := J) o8 rl (rr.fr ((e2 86 (by omega) (by omega)).trans (e1 86 (by omega))) ((e2 87 (by omega) (by omega)).trans (e1 87 (by omega))) ((e2 88 (by omega) (by omega)).trans (e1 88 (by omega)))) (by omega)
  have e3 : ∀ z, (z < a + 32 ∨ a + 35 ≤ z) → I' z = I2 z := fun z q => k2 z (by omega)
  refine ⟨I', ⟨?_, fun k hk => ?_, ?_, k1⟩, ?_, fun K => ?_⟩
  · rw [e3 a (by omega), e2 a (by omega) (by omega), f2 a (by omega), u2_same]
  · have hk10 : k < 10 := by dsimp only at hk; omega
    exact (f1 k hk).fr ((e3 _ (by omega)).trans (e2 _ (by omega) (by omega))) ((e3 _ (by omega)).trans (e2 _ (by omega) (by omega)))
  · exact g1.fr hz2.1 (e3 _ (by omega)) (fun c h1 h2 => e3 c (by omega))
  · intro z hz3
    rw [e3 z (by omega), e2 z (by omega) (by omega), e1 z (by omega)]
  · simp only [rX1_take_0, rX1_take_1, rX1_take_2, rX1_take_5, rX1_take_8, rX1_take_9, o1, c1, r.1, true_and]
    have := f3 K
    rw [nI_0] at this
    rw [this]
    simp only [rX1_take_42, rX1_take_43, rX1_take_46, rX1_take_47, rX1_take_50, rX1_take_53, rX1_take_54, rX1_take_57, rX1_take_58, rX1_take_61, rX1_take_64, o1, o3, o4, c1, c3, c4, rf_some, true_and, o7.1, o8.1]
    rw [g3]
    simp only [tl_none, rX1_take_42, rX1_take_43, rX1_take_46, rX1_take_47, rX1_take_50, rX1_take_53, rX1_take_54, rX1_take_57, rX1_take_58, rX1_take_61, rX1_take_64, o1, o4, c1, c4, rf_some, true_and, o8.1]
    rw [k3]
    simp only [tl_none, rX1_take_42, rX1_take_43, rX1_take_46, rX1_take_47, rX1_take_50, rX1_take_53, rX1_take_54, rX1_take_57, rX1_take_58, rX1_take_61, rX1_take_64]
/-- the cells that going back writes: bytes of lines, words, rules, how many lines -/
abbrev givS (c : Nat) : Prop := c = 4 ∨ (6 ≤ c ∧ c < 76 ∧ ((c - 6) % 7 = 1 ∨ (c - 6) % 7 = 2)) ∨ c = 76 ∨ (78 ≤ c ∧ c < 89)
theorem c_give_loop {a : Nat} (ha : 92 ≤ a) (g : gOK w Q) (hp : piOK Q π) (hl : lsV ls) (ok : kpOK w Q a) : ∀ n k (I : Nat → Nat → Int32), n + k = ls.length → I a 3 = nI ls.length → (∀ j, j < ls.length → rowIs I (a + 2 + 2 * j) (a + 3 + 2 * j) (ls.getD j [])) → (∀ j, j < k → rowIs I (6 + 7 * π j + 1) (6 + 7 * π j + 2) (ls.getD j [])) → ∃ I', (∀ j, j < ls.length → rowIs I' (6 + 7 * π j + 1) (6 + 7 * π j + 2) (ls.getD j [])) ∧ Fr (fun c => 6 ≤ c ∧ c < 76 ∧ ((c - 6) % 7 = 1 ∨ (c - 6) % 7 = 2)) I I' ∧ ∀ K, (WP mX1_give 10 [.ref a, .ref 4, .int (nI k)] [] w (I, Q, J) K ↔ WP mX1_give 42 [.ref a, .ref 4, .int (nI ls.length)] [] w (I', Q, J) K) := by
  obtain ⟨-, -, ⟨c1, c2, c3, c4, c5, c6⟩, lns, -⟩ := id g
  obtain ⟨o1, o2, o3, o4, o5, o6, o7, o8⟩ := id ok
  have hl10 := hl.1
  intro n
  induction n with
  | zero =>
    intro k I hn hc r hj
    refine ⟨I, fun j hj2 => hj j (by omega), Fr.rf, fun K => ?_⟩
    rw [rX1_give_10]
    simp only [rX1_give_11, rX1_give_12, rX1_give_15, o1, hc, true_and]
    rw [if_pos (nI_le (show ls.length ≤ k by omega) (by omega)), show k = ls.length by omega]
  | succ n ih =>
    intro k I hn hc r hj
    have hk10 : k < 10 := by omega
    have hpk := hp.1 k hk10
    have lk := lns (π k) hpk.2
    have l30 := hl.2 k (by omega)
    obtain ⟨I1, g1, g2, g3⟩ := c_rowCopy (I := I) (J := J) lk.2.2.2.2.2.1 (o6 k hk10).2 (r k (by omega)) l30 l30 (by omega)
    have e : ∀ z, z ≠ 6 + 7 * π k + 1 → z ≠ 6 + 7 * π k + 2 → I1 z = I z := fun z q1 q2 => g2 z (by omega)
    obtain ⟨I', f1, f2, f3⟩ := ih (k + 1) I1 (by omega) (by rw [e a (by omega) (by omega)]; exact hc) (fun j hj2 => (r j hj2).fr (e _ (by omega) (by omega)) (e _ (by omega) (by omega))) (fun j hj2 => by
      by_cases q : j = k
      · rw [q]; exact g1
      · have hne : π j ≠ π k := fun z => q (hp.2 j k (by omega) hk10 z)
        exact (hj j (by omega)).fr (e _ (by omega) (by omega)) (e _ (by omega) (by omega)))
    refine ⟨I', f1, Fr.tr g2 f2 (fun c z => by omega) (fun c z => z), fun K => ?_⟩
    rw [rX1_give_10]
    simp only [rX1_give_11, rX1_give_12, rX1_give_15, rX1_give_18, rX1_give_19, rX1_give_22, rX1_give_23, rX1_give_24, rX1_give_27, rX1_give_28, rX1_give_31, rX1_give_32, rX1_give_33, rX1_give_36, rX1_give_39, o1, o2, o5, c1, c2, c6, hc, true_and, true_or, or_true, rf_some, vin_nI hk10 (by decide), nI_clamp (show k < 2 ^ 31 by omega), (o6 k hk10).1, lk.2.2.2.2.2.1.1, hpk.1, lk.1, lk.2.1]
    rw [if_neg (nI_ge (show k < ls.length by omega) (by omega)), g3]
    simp only [tl_none, rX1_give_11, rX1_give_12, rX1_give_15, rX1_give_18, rX1_give_19, rX1_give_22, rX1_give_23, rX1_give_24, rX1_give_27, rX1_give_28, rX1_give_31, rX1_give_32, rX1_give_33, rX1_give_36, rX1_give_39, nI_1]
    exact f3 K
theorem c_give {a : Nat} (ha : 92 ≤ a) (g : gOK w Q) (hp : piOK Q π) (hz : zV (ls, W, R)) (ok : kpOK w Q a) (r : kpIs I a (ls, W, R)) : ∃ I', pgIs I' π ls ∧ wdIs I' 76 78 W ∧ rlIs I' 86 87 88 R ∧ Fr givS I I' ∧ ∀ K, (WP mX1_give 0 [.ref a, .ref 4, .null] [] w (I, Q, J) K ↔ K none w (I', Q, J)) := by
  obtain ⟨-, -, ⟨c1, c2, c3, c4, c5, c6⟩, lns, pn, rl, -⟩ := id g
  obtain ⟨o1, o2, o3, o4, o5, o6, o7, o8⟩ := id ok
  have hz1 : lsV ls := hz.1
  have hz2 : wdV W := hz.2.1
  have hl10 := hz1.1
  have r1 : I a 3 = nI ls.length := r.1
  have r2 : ∀ k, k < ls.length → rowIs I (a + 2 + 2 * k) (a + 3 + 2 * k) (ls.getD k []) := r.2.1
  have r3 : wdIs I (a + 22) (a + 24) W := r.2.2.1
  have r4 : rlIs I (a + 32) (a + 33) (a + 34) R := r.2.2.2
  have e0 : ∀ z, z ≠ 4 → u2 I 4 4 (nI ls.length) z = I z := fun z q => Fr_u2 z q
  obtain ⟨I1, f1, f2, f3⟩ := c_give_loop (J := J) ha g hp hz1 ok ls.length 0 (u2 I 4 4 (nI ls.length)) (by omega) (by rw [e0 a (by omega)]; exact r1) (fun j hj2 => (r2 j hj2).fr (e0 _ (by omega)) (e0 _ (by omega))) (fun j hj => by omega)
  have e1 : ∀ z, 76 ≤ z → I1 z = I z := fun z q => (f2 z (by omega)).trans (e0 z (by omega))
  obtain ⟨I2, g1, g2, g3⟩ := c_wdCopy (I := I1) (J := J) pn.2.2.2 o7 hz2 (r3.fr hz2.1 (e1 _ (by omega)) (fun c h1 h2 => e1 c (by omega))) (by omega) (by omega) (by omega) (by omega)
  have e2 : ∀ z, z ≠ 76 → (z < 78 ∨ 86 ≤ z) → I2 z = I1 z := fun z q1 q2 => g2 z (by omega)
  obtain ⟨I', k1, k2, k3⟩ := c_rlCopy (I := I2) (J := J) rl o8 (r4.fr ((e2 _ (by omega) (by omega)).trans (e1 _ (by omega))) ((e2 _ (by omega) (by omega)).trans (e1 _ (by omega))) ((e2 _ (by omega) (by omega)).trans (e1 _ (by omega)))) (by omega)
  have e3 : ∀ z, (z < 86 ∨ 89 ≤ z) → I' z = I2 z := fun z q => k2 z (by omega)
  refine ⟨I', ⟨?_, fun k hk => ?_⟩, ?_, k1, ?_, fun K => ?_⟩
  · rw [e3 4 (by omega), e2 4 (by omega) (by omega), f2 4 (by omega), u2_same]
  · have := (hp.1 k (by omega)).2
    exact (f1 k hk).fr ((e3 _ (by omega)).trans (e2 _ (by omega) (by omega))) ((e3 _ (by omega)).trans (e2 _ (by omega) (by omega)))
  · exact g1.fr hz2.1 (e3 _ (by omega)) (fun c h1 h2 => e3 c (by omega))
  · intro z hz3
    rw [e3 z (by omega), e2 z (by omega) (by omega), f2 z (by omega), e0 z (by omega)]
  · simp only [rX1_give_0, rX1_give_1, rX1_give_2, rX1_give_5, rX1_give_8, rX1_give_9, o1, c1, r1, true_and]
    have := f3 K
    rw [nI_0] at this
    rw [this]
    simp only [rX1_give_42, rX1_give_43, rX1_give_46, rX1_give_47, rX1_give_50, rX1_give_53, rX1_give_54, rX1_give_57, rX1_give_58, rX1_give_61, rX1_give_64, o1, o3, o4, c1, c3, c4, rf_some, true_and, pn.2.2.2.1, rl.1]
    rw [g3]
    simp only [tl_none, rX1_give_42, rX1_give_43, rX1_give_46, rX1_give_47, rX1_give_50, rX1_give_53, rX1_give_54, rX1_give_57, rX1_give_58, rX1_give_61, rX1_give_64, o1, o4, c1, c4, rf_some, true_and, rl.1]
    rw [k3]
    simp only [tl_none, rX1_give_42, rX1_give_43, rX1_give_46, rX1_give_47, rX1_give_50, rX1_give_53, rX1_give_54, rX1_give_57, rX1_give_58, rX1_give_61, rX1_give_64]
/-- the states back, the newest first; nx: where the next one goes -/
def hsIs (I : Nat → Nat → Int32) (nx : Nat) (H : List ZS) : Prop := I 92 1 = nI H.length ∧ I 92 2 = nI nx ∧ nx < 5 ∧ ∀ d, d < H.length → kpIs I (94 + 35 * ((nx + 4 - d) % 5)) (H.getD d ([], [], []))
def hsV (H : List ZS) : Prop := H.length ≤ 5 ∧ ∀ d, d < H.length → zV (H.getD d ([], [], []))
theorem c_keep {nx : Nat} {H : List ZS} (g : gOK w Q) (hp : piOK Q π) (hz : zV (ls, W, R)) (hH : hsV H) (rh : hsIs I nx H) (r : pgIs I π ls) (rw0 : wdIs I 76 78 W) (rr : rlIs I 86 87 88 R) : ∃ I' nx', hsIs I' nx' (((ls, W, R) :: H).take 5) ∧ Fr (fun c => 92 ≤ c ∧ c < 269) I I' ∧ ∀ K, (WP mX0_keep 0 [.ref 92, .ref 4] [] w (I, Q, J) K ↔ K none w (I', Q, J)) := by
  obtain ⟨-, -, ⟨c1, -⟩, -, -, -, ⟨h1, h2, h3, h4⟩, -⟩ := id g
  obtain ⟨q1, q2, q3, q4⟩ := rh
  obtain ⟨v1, v2⟩ := hH
  obtain ⟨I1, f1, f2, f3⟩ := c_take (I := I) (J := J) (a := 94 + 35 * nx) (by omega) g hp hz (h4 nx q3).2 r rw0 rr
  have e : ∀ z, (z < 94 + 35 * nx ∨ 94 + 35 * nx + 35 ≤ z) → I1 z = I z := fun z q => f2 z (by omega)
  have hn : (if (5 : Int32) ≤ nI (nx + 1) then (0 : Int32) else nI (nx + 1)) = nI ((nx + 1) % 5) := by
    by_cases q : nx = 4
    · subst q; rfl
    · rw [if_neg (show ¬ (5 : Int32) ≤ nI (nx + 1) from nI_ge (show nx + 1 < 5 by omega) (by decide)), Nat.mod_eq_of_lt (by omega)]
  have hm : (if (5 : Int32) < nI (H.length + 1) then (5 : Int32) else nI (H.length + 1)) = nI (((ls, W, R) :: H).take 5).length := by
    by_cases q : H.length = 5
    · rw [if_pos (show (5 : Int32) < nI (H.length + 1) from nI_lt (a := 5) (by omega) (by omega))]; simp [q]; rfl
    · rw [if_neg (show ¬ (5 : Int32) < nI (H.length + 1) from nI_nlt (show H.length + 1 ≤ 5 by omega) (by decide))]
      congr 1; simp; omega
  refine ⟨u2 (u2 I1 92 2 (nI ((nx + 1) % 5))) 92 1 (nI (((ls, W, R) :: H).take 5).length), (nx + 1) % 5, ⟨u2_same, ?_, by omega, fun d hd => ?_⟩, ?_, fun K => ?_⟩
  · rw [u2_ne (Or.inr (by decide)), u2_same]
  · have e2 : ∀ z, z ≠ 92 → u2 (u2 I1 92 2 (nI ((nx + 1) % 5))) 92 1 (nI (((ls, W, R) :: H).take 5).length) z = I1 z := fun z q => (Fr_u2 z q).trans (Fr_u2 z q)
    have hd5 : d < 5 ∧ d < H.length + 1 := by simp at hd; omega
    have eg : (((ls, W, R) :: H).take 5).getD d ([], [], []) = ((ls, W, R) :: H).getD d ([], [], []) := by
      simp only [List.getD_eq_getElem?_getD, List.getElem?_take, hd5.1, if_true]
    rw [eg]
    match d, hd5 with
    | 0, _ =>
      rw [show ((nx + 1) % 5 + 4 - 0) % 5 = nx by omega]
      exact f1.fr hz (fun c _ _ => e2 c (by omega))
    | d + 1, hd5 =>
      rw [show ((nx + 1) % 5 + 4 - (d + 1)) % 5 = (nx + 4 - d) % 5 by omega]
      have hne : (nx + 4 - d) % 5 ≠ nx := by omega
      exact (q4 d (by omega)).fr (v2 d (by omega)) (fun c z1 z2 => (e2 c (by omega)).trans (e c (by omega)))
  · exact Fr.tr (Fr.tr (S := fun c => 92 ≤ c ∧ c < 269) f2 Fr_u2 (fun c z => by omega) (fun c z => by omega)) Fr_u2 (fun c z => z) (fun c z => by omega)
  · simp only [rX0_keep_0, rX0_keep_1, rX0_keep_4, rX0_keep_5, rX0_keep_8, rX0_keep_9, rX0_keep_10, h1, h2, h3, q2, true_and, or_true, rf_some, vin_nI q3 (by decide), nI_clamp (show nx < 2 ^ 31 by omega), (h4 nx q3).1, (h4 nx q3).2.1]
    rw [f3]
    have e92 : I1 92 2 = nI nx := by rw [e 92 (by omega)]; exact q2
    have e91 : u2 I1 92 2 (nI ((nx + 1) % 5)) 92 1 = nI H.length := by rw [u2_ne (Or.inr (by decide)), e 92 (by omega)]; exact q1
    have fin : WP mX0_keep 34 [.ref 92, .ref 4] [.int (nI ((nx + 1) % 5)), .ref 92] w (I1, Q, J) K ↔ K none w (u2 (u2 I1 92 2 (nI ((nx + 1) % 5))) 92 1 (nI (((ls, W, R) :: H).take 5).length), Q, J) := by
      simp only [rX0_keep_34, rX0_keep_37, rX0_keep_38, rX0_keep_39, rX0_keep_42, rX0_keep_43, rX0_keep_44, rX0_keep_45, rX0_keep_48, rX0_keep_51, h1, true_and, e91, nI_1, hm]
    simp only [tl_none, rX0_keep_13, rX0_keep_14, rX0_keep_15, rX0_keep_18, rX0_keep_19, rX0_keep_20, rX0_keep_21, rX0_keep_24, rX0_keep_25, rX0_keep_28, rX0_keep_29, rX0_keep_30, rX0_keep_33, h1, true_and, e92, nI_1]
    by_cases q : (5 : Int32) ≤ nI (nx + 1)
    · rw [if_pos q] at hn ⊢
      rw [← fin, hn]
    · rw [if_neg q] at hn ⊢
      rw [← fin, hn]
theorem c_giveBack {nx : Nat} {H : List ZS} {Z : ZS} (g : gOK w Q) (hp : piOK Q π) (hH : hsV (Z :: H)) (rh : hsIs I nx (Z :: H)) : ∃ I' nx', hsIs I' nx' H ∧ pgIs I' π Z.1 ∧ wdIs I' 76 78 Z.2.1 ∧ rlIs I' 86 87 88 Z.2.2 ∧ Fr (fun c => givS c ∨ c = 92) I I' ∧ ∀ K, (WP mX0_giveBack 0 [.ref 92, .ref 4] [] w (I, Q, J) K ↔ K none w (I', Q, J)) := by
  obtain ⟨-, -, ⟨c1, -⟩, -, -, -, ⟨h1, h2, h3, h4⟩, -⟩ := id g
  obtain ⟨q1, q2, q3, q4⟩ := rh
  obtain ⟨v1, v2⟩ := hH
  have hl5 : H.length + 1 ≤ 5 := v1
  have hz : zV Z := v2 0 (by simp)
  have hk0 := q4 0 (by simp)
  rw [show (Z :: H).getD 0 ([], [], []) = Z from rfl] at hk0
  have e0 : ∀ z, z ≠ 92 → u2 (u2 I 92 2 (nI ((nx + 4) % 5))) 92 1 (nI H.length) z = I z := fun z q => (Fr_u2 z q).trans (Fr_u2 z q)
  obtain ⟨ls, W, R⟩ := Z
  have hlt : (nx + 4) % 5 < 5 := by omega
  obtain ⟨I', f1, f2, f3, f4, f5⟩ := c_give (J := J) (a := 94 + 35 * ((nx + 4 - 0) % 5)) (by omega) g hp hz (h4 _ (by omega)).2 (hk0.fr (I' := u2 (u2 I 92 2 (nI ((nx + 4) % 5))) 92 1 (nI H.length)) hz (fun c _ _ => e0 c (by omega)))
  rw [Nat.sub_zero] at f5
  have e1 : ∀ z, 89 ≤ z → I' z = u2 (u2 I 92 2 (nI ((nx + 4) % 5))) 92 1 (nI H.length) z := fun z q => f4 z (by omega)
  have hn : (if nI nx ≤ 0 then (4 : Int32) else nI nx - 1) = nI ((nx + 4) % 5) := by
    by_cases q : nx = 0
    · subst q; rfl
    · rw [if_neg (nI_nle (by omega) (by omega)), show nI nx - 1 = nI (nx - 1) from pk_sub (show 1 ≤ nx by omega), show (nx + 4) % 5 = nx - 1 by omega]
  refine ⟨I', (nx + 4) % 5, ⟨?_, ?_, hlt, fun d hd => ?_⟩, f1, f2, f3, ?_, fun K => ?_⟩
  · rw [e1 92 (by omega), u2_same]
  · rw [e1 92 (by omega), u2_ne (Or.inr (by decide)), u2_same]
  · have hk := q4 (d + 1) (by simp; exact hd)
    rw [show (nx + 4 - (d + 1)) % 5 = ((nx + 4) % 5 + 4 - d) % 5 by omega] at hk
    rw [show ((ls, W, R) :: H).getD (d + 1) ([], [], []) = H.getD d ([], [], []) from rfl] at hk
    have hzd := v2 (d + 1) (by simp; exact hd)
    exact hk.fr hzd (fun c z1 z2 => (e1 c (by omega)).trans (e0 c (by omega)))
  · exact Fr.tr (Fr.tr (S := fun c => c = 92) Fr_u2 Fr_u2 (fun c z => z) (fun c z => z)) f4 (fun c z => Or.inr z) (fun c z => Or.inl z)
  · have hq1 : I 92 1 = nI (H.length + 1) := q1
    have e11 : u2 I 92 2 (nI ((nx + 4) % 5)) 92 1 = nI (H.length + 1) := by rw [u2_ne (Or.inr (by decide))]; exact hq1
    have e12 : u2 (u2 I 92 2 (nI ((nx + 4) % 5))) 92 1 (nI H.length) 92 2 = nI ((nx + 4) % 5) := by rw [u2_ne (Or.inr (by decide)), u2_same]
    have fin : WP mX0_giveBack 26 [.ref 92, .ref 4] [.int (nI ((nx + 4) % 5)), .ref 92] w (I, Q, J) K ↔ K none w (I', Q, J) := by
      simp only [rX0_giveBack_26, rX0_giveBack_29, rX0_giveBack_30, rX0_giveBack_31, rX0_giveBack_34, rX0_giveBack_35, rX0_giveBack_36, rX0_giveBack_39, rX0_giveBack_40, rX0_giveBack_43, rX0_giveBack_44, rX0_giveBack_47, rX0_giveBack_48, rX0_giveBack_49, h1, h2, h3, true_and, or_true, rf_some, e11, nI_pred, e12, vin_nI hlt (by decide), nI_clamp (show (nx + 4) % 5 < 2 ^ 31 by omega), (h4 _ hlt).1, (h4 _ hlt).2.1]
      rw [f5]
      simp only [tl_none, rX0_giveBack_52]
    simp only [rX0_giveBack_0, rX0_giveBack_1, rX0_giveBack_4, rX0_giveBack_7, rX0_giveBack_8, rX0_giveBack_9, rX0_giveBack_10, rX0_giveBack_13, rX0_giveBack_16, rX0_giveBack_17, rX0_giveBack_20, rX0_giveBack_21, rX0_giveBack_22, rX0_giveBack_25, h1, true_and, hq1, q2]
    rw [if_pos (nI_ne0 (by omega) (by omega))]
    by_cases q : nI nx ≤ 0
    · rw [if_pos q] at hn ⊢
      rw [← fin, hn]
    · rw [if_neg q] at hn ⊢
      rw [← fin, hn]
end HI
