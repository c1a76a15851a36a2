section LZ
variable {w : WS} {I : Nat → Nat → Int32} {Q : Nat → Nat → Option Nat} {J : Nat → Nat → Int64} {S : SP}
theorem lw_end {L i : Nat} (hL : L ≤ 2048) (hi : i < 3000) : nI L - 4 < nI i ↔ L < i + 4 := by
  by_cases h : 4 ≤ L
  · rw [show nI L - 4 = nI (L - 4) from pk_sub h, nI_ltI (by omega) (by omega)]; omega
  · have e : (nI L - 4).toInt < 0 := by rcases (show L = 0 ∨ L = 1 ∨ L = 2 ∨ L = 3 by omega) with rfl | rfl | rfl | rfl <;> decide
    rw [Int32.lt_iff_toInt_lt, nI_toInt (show i < 2 ^ 31 by omega)]
    omega
theorem L_digest {i : Nat} (cs : CS w I Q S) (ms : MS w I Q S) : ∃ (I2 : Nat → Nat → Int32) (Q2 : Nat → Nat → Option Nat) (J2 : Nat → Nat → Int64), CS w I2 Q2 S ∧ MS w I2 Q2 S ∧ I2 0 = I 0 ∧ ∀ K, (WP mL_law 608 [.ref 0, .ref 1, .ref 270, .int (nI i)] [] w (I, Q, J) K ↔ WP mL_law 622 [.ref 0, .ref 1, .ref 270, .int (nI i)] [] w (I2, Q2, J2) K) := by
  obtain ⟨I1, Q1, d1, d2, d3, d4⟩ := C_digest (J := J) cs
  have ms1 := ms.cls d2 d3
  obtain ⟨J2, m4⟩ := N_digest (J := J) ms1 cs.2.1
  refine ⟨I1, Q1, J2, d1, ms1, d2 0 (by omega), fun K => ?_⟩
  simp only [rL_law_608, rL_law_609, cs.1.1.1, true_and]
  rw [d4]
  simp only [tl_some, List.cons_append, List.nil_append, rL_law_612, rL_law_613, ms.1.1, true_and]
  rw [m4]
  simp only [tl_some, List.cons_append, List.nil_append, rL_law_616, rL_law_617]
  rw [if_pos (show lg_cmp (sp_digest S) (sp_digest S) = 0 by simp [lg_cmp])]
theorem L_loop {L : Nat} (hL : L ≤ 2048) (hs : w.1 0 = (20, L)) : ∀ n i (I : Nat → Nat → Int32) (Q : Nat → Nat → Option Nat) (J : Nat → Nat → Int64) (S : SP), L < n + i + 4 → i ≤ L + 3 → CS w I Q S → MS w I Q S → WP mL_law 18 [.ref 0, .ref 1, .ref 270, .int (nI i)] [] w (I, Q, J) (fun r w' _ => r = some (.int 1) ∧ w' = w) := by
  have fin : ∀ i (h : HS), i ≤ L + 3 → L < i + 4 → WP mL_law 18 [.ref 0, .ref 1, .ref 270, .int (nI i)] [] w h (fun r w' _ => r = some (.int 1) ∧ w' = w) := by
    intro i h hi he
    rw [rL_law_18]
    simp only [rL_law_19, rL_law_20, rL_law_21, rL_law_22, rL_law_23, rL_law_628, rL_law_629, hs, true_and]
    rw [if_pos ((lw_end hL (by omega)).mpr he)]
    simp
  intro n
  induction n with
  | zero => intro i I Q J S hn hi cs ms; exact fin i _ hi (by omega)
  | succ n ih =>
    intro i I Q J S hn hi cs ms
    by_cases he : L < i + 4
    · exact fin i _ hi he
    · have go : ∀ (I2 : Nat → Nat → Int32) (Q2 : Nat → Nat → Option Nat) (J2 : Nat → Nat → Int64) (S2 : SP), CS w I2 Q2 S2 → MS w I2 Q2 S2 → WP mL_law 622 [.ref 0, .ref 1, .ref 270, .int (nI i)] [] w (I2, Q2, J2) (fun r w' _ => r = some (.int 1) ∧ w' = w) := by
        intro I2 Q2 J2 S2 cs2 ms2
        simp only [rL_law_622, rL_law_625, show nI i + 4 = nI (i + 4) from nI_add i 4]
        exact ih (i + 4) I2 Q2 J2 S2 (by omega) (by omega) cs2 ms2
      rw [rL_law_18]
      simp only [rL_law_19, rL_law_20, rL_law_21, rL_law_22, rL_law_23, rL_law_26, rL_law_27, rL_law_28, rL_law_29, rL_law_31, hs, true_and, true_or, vin_nI (show i < L by omega) (by omega), nI_clamp (show i < 2 ^ 31 by omega)]
      rw [if_neg (fun z => he ((lw_end hL (by omega)).mp z))]
      rcases pk_ix (I 0 i &&& 31) (n := 19) (by decide) with q | q | ⟨j, hj, e⟩
      · rw [rL_law_32_d (Or.inl (by have := Int32.lt_iff_toInt_lt.mp q; simpa using this))]
        exact go I Q J S cs ms
      · rw [rL_law_32_d (Or.inr (by have := Int32.le_iff_toInt_le.mp q; rw [nI_toInt (by decide)] at this; omega))]
        exact go I Q J S cs ms
      · rw [e]
        rcases (show j = 0 ∨ j = 1 ∨ j = 2 ∨ j = 3 ∨ j = 4 ∨ j = 5 ∨ j = 6 ∨ j = 7 ∨ j = 8 ∨ j = 9 ∨ j = 10 ∨ j = 11 ∨ j = 12 ∨ j = 13 ∨ j = 14 ∨ j = 15 ∨ j = 16 ∨ j = 17 ∨ j = 18 by omega) with rfl | rfl | rfl | rfl | rfl | rfl | rfl | rfl | rfl | rfl | rfl | rfl | rfl | rfl | rfl | rfl | rfl | rfl | rfl
        · obtain ⟨I2, Q2, c1, c2, -, c4⟩ := L_type (J := J) hL hs (show i + 4 ≤ L by omega) cs ms
          rw [show nI 0 = 0 from rfl, rL_law_32_0, c4]
          exact go I2 Q2 J _ c1 c2
        · obtain ⟨I2, Q2, c1, c2, -, c4⟩ := L_clear (J := J) hL hs (show i + 4 ≤ L by omega) cs ms
          rw [show nI 1 = 1 from rfl, rL_law_32_1, c4]
          exact go I2 Q2 J _ c1 c2
        · obtain ⟨I2, Q2, c1, c2, -, c4⟩ := L_inserts (J := J) hL hs (show i + 4 ≤ L by omega) cs ms
          rw [show nI 2 = 2 from rfl, rL_law_32_2, c4]
          exact go I2 Q2 J _ c1 c2
        · obtain ⟨I2, Q2, c1, c2, -, c4⟩ := L_sets (J := J) hL hs (show i + 4 ≤ L by omega) cs ms
          rw [show nI 3 = 3 from rfl, rL_law_32_3, c4]
          exact go I2 Q2 J _ c1 c2
        · obtain ⟨I2, Q2, c1, c2, -, c4⟩ := L_drops (J := J) hL hs (show i + 4 ≤ L by omega) cs ms
          rw [show nI 4 = 4 from rfl, rL_law_32_4, c4]
          exact go I2 Q2 J _ c1 c2
        · obtain ⟨I2, Q2, c1, c2, -, c4⟩ := L_puts (J := J) hL hs (show i + 4 ≤ L by omega) cs ms
          rw [show nI 5 = 5 from rfl, rL_law_32_5, c4]
          exact go I2 Q2 J _ c1 c2
        · obtain ⟨I2, Q2, c1, c2, -, c4⟩ := L_erases (J := J) hL hs (show i + 4 ≤ L by omega) cs ms
          rw [show nI 6 = 6 from rfl, rL_law_32_6, c4]
          exact go I2 Q2 J _ c1 c2
        · obtain ⟨I2, Q2, c1, c2, -, c4⟩ := L_splits (J := J) hL hs (show i + 4 ≤ L by omega) cs ms
          rw [show nI 7 = 7 from rfl, rL_law_32_7, c4]
          exact go I2 Q2 J _ c1 c2
        · obtain ⟨I2, Q2, c1, c2, -, c4⟩ := L_word (J := J) hL hs (show i + 4 ≤ L by omega) cs ms
          rw [show nI 8 = 8 from rfl, rL_law_32_8, c4]
          exact go I2 Q2 J _ c1 c2
        · obtain ⟨I2, Q2, c1, c2, -, c4⟩ := L_unword (J := J) hL hs (show i + 4 ≤ L by omega) cs ms
          rw [show nI 9 = 9 from rfl, rL_law_32_9, c4]
          exact go I2 Q2 J _ c1 c2
        · obtain ⟨I2, Q2, c1, c2, -, c4⟩ := L_rule (J := J) hL hs (show i + 4 ≤ L by omega) cs ms
          rw [show nI 10 = 10 from rfl, rL_law_32_10, c4]
          exact go I2 Q2 J _ c1 c2
        · obtain ⟨I2, Q2, c1, c2, -, c4⟩ := L_at (J := J) hL hs (show i + 4 ≤ L by omega) cs ms
          rw [show nI 11 = 11 from rfl, rL_law_32_11, c4]
          exact go I2 Q2 J _ c1 c2
        · obtain ⟨I2, Q2, c1, c2, -, c4⟩ := L_of (J := J) hL hs (show i + 4 ≤ L by omega) cs ms
          rw [show nI 12 = 12 from rfl, rL_law_32_12, c4]
          exact go I2 Q2 J _ c1 c2
        · obtain ⟨I2, Q2, c1, c2, -, c4⟩ := L_span (J := J) hL hs (show i + 4 ≤ L by omega) cs ms
          rw [show nI 13 = 13 from rfl, rL_law_32_13, c4]
          exact go I2 Q2 J _ c1 c2
        · obtain ⟨I2, Q2, c1, c2, -, c4⟩ := L_anew (J := J) hL hs (show i + 4 ≤ L by omega) cs ms
          rw [show nI 14 = 14 from rfl, rL_law_32_14, c4]
          exact go I2 Q2 J _ c1 c2
        · obtain ⟨I2, Q2, c1, c2, -, c4⟩ := L_painted (J := J) hL hs (show i + 4 ≤ L by omega) cs ms
          rw [show nI 15 = 15 from rfl, rL_law_32_15, c4]
          exact go I2 Q2 J _ c1 c2
        · obtain ⟨I2, Q2, c1, c2, -, c4⟩ := L_back (J := J) hL hs (show i + 4 ≤ L by omega) cs ms
          rw [show nI 16 = 16 from rfl, rL_law_32_16, c4]
          exact go I2 Q2 J _ c1 c2
        · obtain ⟨I2, Q2, c1, c2, -, c4⟩ := L_told (J := J) hL hs (show i + 4 ≤ L by omega) cs ms
          rw [show nI 17 = 17 from rfl, rL_law_32_17, c4]
          exact go I2 Q2 J _ c1 c2
        · obtain ⟨I2, Q2, J2, c1, c2, -, c4⟩ := L_digest (J := J) (i := i) cs ms
          rw [show nI 18 = 18 from rfl, rL_law_32_18, c4]
          exact go I2 Q2 J2 _ c1 c2
end LZ
