/-! ===== the reference: lines come and go ===== -/
section MB
variable {w : WS} {I : Nat → Nat → Int32} {Q : Nat → Nat → Option Nat} {J : Nat → Nat → Int64} {K : Option Value → WS → HS → Prop} {S : SP}
theorem nowIs.ls {N N' : Nat → Int32} {ls ls' W : List (List Int32)} {R : List RU} (h : nowIs N (ls, W, R)) (e : ∀ z, z = 1 ∨ z = 2 ∨ 313 ≤ z → N' z = N z) (h0 : N' 0 = nI ls'.length) (hl : ∀ k, k < ls'.length → lnM N' k (ls'.getD k [])) : nowIs N' (ls', W, R) := by
  obtain ⟨⟨h1, h2, h3⟩, h4, h5, h6⟩ := h
  exact ⟨⟨h0, by rw [e 1 (by omega)]; exact h2, by rw [e 2 (by omega)]; exact h3⟩, hl, fun k hk => ⟨by rw [e _ (by omega)]; exact (h5 k hk).1, fun i hi => by rw [e _ (by omega)]; exact (h5 k hk).2 i hi⟩, fun k hk => ⟨by rw [e _ (by omega)]; exact (h6 k hk).1, by rw [e _ (by omega)]; exact (h6 k hk).2.1, by rw [e _ (by omega)]; exact (h6 k hk).2.2⟩⟩
theorem lnE.rf {N : Nat → Int32} {j : Nat} : lnE N j N j := ⟨rfl, fun _ _ => rfl⟩
theorem lnE.tr {N N' N'' : Nat → Int32} {j j' j'' : Nat} (h1 : lnE N j N' j') (h2 : lnE N' j' N'' j'') : lnE N j N'' j'' := ⟨h1.1.trans h2.1, fun i hi => (h1.2 i hi).trans (h2.2 i hi)⟩
theorem M_op_loop {k : Nat} (ok : mOK w Q) : ∀ d (I : Nat → Nat → Int32), d + k < 10 → ∃ I', (∀ j, k < j → j ≤ d + k → lnE (I' 271) j (I 271) (j - 1) ∧ I' 279 j = I 279 (j - 1)) ∧ (∀ j, j < 10 → j ≤ k ∨ d + k < j → lnE (I' 271) j (I 271) j ∧ I' 279 j = I 279 j) ∧ (∀ z, z < 3 ∨ 313 ≤ z → I' 271 z = I 271 z) ∧ (∀ c, c ≠ 271 → c ≠ 279 → I' c = I c) ∧ ∀ K, (WP mX10_opens 7 [.ref 270, .int (nI k), .int (nI (d + k))] [] w (I, Q, J) K ↔ WP mX10_opens 26 [.ref 270, .int (nI k), .int (nI k)] [] w (I', Q, J) K) := by
  intro d
  induction d with
  | zero =>
    intro I hd
    refine ⟨I, fun j h1 h2 => by omega, fun _ _ _ => ⟨lnE.rf, rfl⟩, fun _ _ => rfl, fun _ _ _ => rfl, fun K => ?_⟩
    rw [rX10_opens_7]
    simp only [rX10_opens_8, rX10_opens_9]
    rw [Nat.zero_add, if_pos (nI_le (Nat.le_refl _) (by omega))]
  | succ d ih =>
    intro I hd
    obtain ⟨I1, f1, f2, f3, f4, f5, f6⟩ := M_moves (I := I) (J := J) (a := d + k) (b := d + 1 + k) ok (by omega) (by omega) (by omega)
    obtain ⟨I', g1, g2, g3, g4, g5⟩ := ih I1 (by omega)
    refine ⟨I', fun j h1 h2 => ?_, fun j h1 h2 => ?_, fun z hz => (g3 z hz).trans (f2 z (by omega) (by omega)), fun c z1 z2 => (g4 c z1 z2).trans (f5 c z1 z2), fun K => ?_⟩
    · by_cases e : j = d + 1 + k
      · subst e
        have := g2 (d + 1 + k) (by omega) (by omega)
        refine ⟨this.1.tr (by rw [show d + 1 + k - 1 = d + k by omega]; exact f1), by rw [this.2, f3, show d + 1 + k - 1 = d + k by omega]⟩
      · have := g1 j h1 (by omega)
        exact ⟨this.1.tr (f2.ln (by omega) (by omega) (by omega)), by rw [this.2, f4 _ (by omega)]⟩
    · have := g2 j h1 (by omega)
      exact ⟨this.1.tr (f2.ln h1 (by omega) (by omega)), by rw [this.2, f4 _ (by omega)]⟩
    · rw [← g5 K, rX10_opens_7]
      simp only [rX10_opens_8, rX10_opens_9, rX10_opens_12, rX10_opens_13, rX10_opens_14, rX10_opens_15, rX10_opens_16, rX10_opens_17, ok.1, true_and, show nI (d + 1 + k) - 1 = nI (d + k) from (pk_sub (show 1 ≤ d + 1 + k by omega)).trans (congrArg nI (show d + 1 + k - 1 = d + k by omega))]
      rw [if_neg (nI_ge (show k < d + 1 + k by omega) (by omega)), f6]
      simp only [tl_none, rX10_opens_20, rX10_opens_23, show nI (d + 1 + k) + -1 = nI (d + k) by rw [show d + 1 + k = d + k + 1 by omega]; exact pk_m1 _]
theorem M_op_zero {k : Nat} (ok : mOK w Q) (hk : k < 10) : ∀ n i (I : Nat → Nat → Int32), n + i = 30 → ∃ I', (∀ z, z < 13 + 30 * k ∨ 43 + 30 * k ≤ z → I' 271 z = I 271 z) ∧ (∀ c, c ≠ 271 → I' c = I c) ∧ ∀ K, (WP mX10_opens 54 [.ref 270, .int (nI k), .int (nI i)] [] w (I, Q, J) K ↔ K none w (I', Q, J)) := by
  obtain ⟨o, ⟨q0, q1, q3, q4, q7, q8, q9, q10, q11⟩, w1, -⟩ := id ok
  intro n
  induction n with
  | zero =>
    intro i I hi
    refine ⟨I, fun _ _ => rfl, fun _ _ => rfl, fun K => ?_⟩
    rw [rX10_opens_54]
    simp only [rX10_opens_55, rX10_opens_57, rX10_opens_81]
    rw [if_pos (show (30 : Int32) ≤ nI i from nI_le (show 30 ≤ i by omega) (by omega))]
  | succ n ih =>
    intro i I hi
    obtain ⟨I', f1, f2, f3⟩ := ih (i + 1) (u2 I 271 (13 + 30 * k + i) 0) (by omega)
    refine ⟨I', fun z hz => by rw [f1 z hz, u2_ne (Or.inr (by omega))], fun c hc => (f2 c hc).trans (Fr_u2 c hc), fun K => ?_⟩
    rw [← f3 K, rX10_opens_54]
    simp only [rX10_opens_55, rX10_opens_57, rX10_opens_60, rX10_opens_61, rX10_opens_64, rX10_opens_66, rX10_opens_68, rX10_opens_69, rX10_opens_70, rX10_opens_71, rX10_opens_72, rX10_opens_73, rX10_opens_74, rX10_opens_75, rX10_opens_78, o, q0, w1, rf_some, true_and, ixB, vin_nI (show 13 + 30 * k + i < 373 by omega) (by decide), nI_clamp (show 13 + 30 * k + i < 2 ^ 31 by omega), ne_eq, show ¬ (271 : Nat) = 0 by decide, not_false_eq_true, nI_1]
    rw [if_neg (show ¬ (30 : Int32) ≤ nI i from nI_ge (show i < 30 by omega) (by decide))]
theorem M_opens {k n : Nat} (ok : mOK w Q) (hk : k ≤ n) (hn : n < 10) (h0 : I 271 0 = nI n) : ∃ I', I' 271 0 = nI (n + 1) ∧ (∀ j, j < k → lnE (I' 271) j (I 271) j ∧ I' 279 j = I 279 j) ∧ (I' 271 (3 + k) = nI 0 ∧ I' 279 k = -1) ∧ (∀ j, k < j → j ≤ n → lnE (I' 271) j (I 271) (j - 1) ∧ I' 279 j = I 279 (j - 1)) ∧ (∀ z, z = 1 ∨ z = 2 ∨ 313 ≤ z → I' 271 z = I 271 z) ∧ (∀ c, c ≠ 271 → c ≠ 279 → I' c = I c) ∧ ∀ K, (WP mX10_opens 0 [.ref 270, .int (nI k), .null] [] w (I, Q, J) K ↔ K none w (I', Q, J)) := by
  obtain ⟨o, ⟨q0, q1, q3, q4, q7, q8, q9, q10, q11⟩, w1, w2, w3, w4, w5, w6, w7, w8, w9⟩ := id ok
  have v0 : vin 0 373 := vin_nI (n := 0) (by decide) (by decide)
  obtain ⟨I1, f1, f2, f3, f4, f5⟩ := M_op_loop (J := J) (k := k) ok (n - k) I (by omega)
  rw [show n - k + k = n by omega] at f1 f2 f5
  have h01 : I1 271 0 = nI n := by rw [f3 0 (by omega)]; exact h0
  obtain ⟨I', g1, g2, g3⟩ := M_op_zero (J := J) ok (show k < 10 by omega) 30 0 (u2 (u2 (u2 I1 271 0 (nI (n + 1))) 279 k (-1)) 271 (3 + k) 0) rfl
  have ez : ∀ z, z ≠ 0 → z ≠ 3 + k → z < 13 + 30 * k ∨ 43 + 30 * k ≤ z → I' 271 z = I1 271 z := fun z z1 z2 z3 => by rw [g1 z z3, u2_ne (Or.inr z2), u2_ne (Or.inl (by decide)), u2_ne (Or.inr z1)]
  have e279 : ∀ j, j ≠ k → I' 279 j = I1 279 j := fun j hj => by rw [g2 279 (by decide), u2_ne (Or.inl (by decide)), u2_ne (Or.inr hj), u2_ne (Or.inl (by decide))]
  have eln : ∀ j, j < 10 → j ≠ k → lnE (I' 271) j (I1 271) j := fun j h1 h2 => ⟨ez _ (by omega) (by omega) (by omega), fun i hi => ez _ (by omega) (by omega) (by omega)⟩
  refine ⟨I', ?_, fun j hj => ?_, ⟨?_, ?_⟩, fun j h1 h2 => ?_, fun z hz => ?_, fun c z1 z2 => ?_, fun K => ?_⟩
  · rw [g1 0 (by omega), u2_ne (Or.inr (by omega)), u2_ne (Or.inl (by decide)), u2_same]
  · have := f2 j (by omega) (by omega)
    exact ⟨(eln j (by omega) (by omega)).tr this.1, by rw [e279 j (by omega), this.2]⟩
  · rw [g1 _ (by omega), u2_same]; rfl
  · rw [g2 279 (by decide), u2_ne (Or.inl (by decide)), u2_same]
  · have := f1 j h1 h2
    exact ⟨(eln j (by omega) (by omega)).tr this.1, by rw [e279 j (by omega), this.2]⟩
  · rw [ez z (by omega) (by omega) (by omega), f3 z (by omega)]
  · rw [g2 c z1, Fr_u2 c z1, Fr_u2 c z2, Fr_u2 c z1, f4 c z1 z2]
  · simp only [rX10_opens_0, rX10_opens_1, rX10_opens_4, rX10_opens_5, rX10_opens_6, o, q0, w1, rf_some, true_and, v0, cl0, h0]
    rw [f5 K]
    simp only [rX10_opens_26, rX10_opens_27, rX10_opens_30, rX10_opens_31, rX10_opens_32, rX10_opens_33, rX10_opens_34, rX10_opens_35, rX10_opens_36, rX10_opens_37, rX10_opens_40, rX10_opens_41, rX10_opens_42, rX10_opens_43, rX10_opens_44, rX10_opens_47, rX10_opens_48, rX10_opens_49, rX10_opens_50, rX10_opens_51, rX10_opens_52, rX10_opens_53, o, q0, q11, w1, w9, rf_some, true_and, v0, cl0, h01, nI_1, ixL, vin_nI (show k < 10 by omega) (show 10 < 2 ^ 31 by decide), nI_clamp (show k < 2 ^ 31 by omega), vin_nI (show 3 + k < 373 by omega) (by decide), nI_clamp (show 3 + k < 2 ^ 31 by omega), ne_eq, show ¬ (271 : Nat) = 0 by decide, show ¬ (279 : Nat) = 0 by decide, not_false_eq_true]
    exact g3 K
theorem zV_ins {kk : Nat} (hv : SV S) (hk : kk ≤ S.2.1.1.length) (hlt : S.2.1.1.length < 10) : zV (S.2.1.1.take kk ++ S.1 :: S.2.1.1.drop kk, S.2.1.2) := by
  have hlen : (S.2.1.1.take kk ++ S.1 :: S.2.1.1.drop kk).length = S.2.1.1.length + 1 := by simp; omega
  refine ⟨⟨by show (S.2.1.1.take kk ++ S.1 :: S.2.1.1.drop kk).length ≤ 10; omega, fun j hj => ?_⟩, hv.2.1.2⟩
  have hj : j < S.2.1.1.length + 1 := by rw [← hlen]; exact hj
  show ((S.2.1.1.take kk ++ S.1 :: S.2.1.1.drop kk).getD j []).length ≤ 30
  rw [ins_getD hk]
  split
  · exact hv.2.1.1.2 j (by omega)
  · split
    · exact hv.1
    · exact hv.2.1.1.2 (j - 1) (by omega)
theorem N_inserts {k : Int32} (ms : MS w I Q S) (hv : SV S) : MA w I Q J mX10_inserts [.ref 270, .int k] (.int (sp_inserts k S).1) (sp_inserts k S).2 := by
  obtain ⟨ok, c2, c3, c4, c5, c6, c7⟩ := id ms
  obtain ⟨o, ⟨q0, q1, q3, q4, q7, q8, q9, q10, q11⟩, w1, -⟩ := id ok
  have h10 := hv.2.1.1.1
  have hT := hv.1
  have v0 : vin 0 373 := vin_nI (n := 0) (by decide) (by decide)
  unfold sp_inserts
  by_cases hk : inR k (S.2.1.1.length + 1)
  · rw [if_neg (fun z => z hk)]
    by_cases hf : S.2.1.1.length = 10
    · rw [if_pos hf]
      refine MA.full ms (fun K => ?_)
      simp only [rX10_inserts_0, rX10_inserts_1, rX10_inserts_2, rX10_inserts_3, rX10_inserts_6, rX10_inserts_7, rX10_inserts_8, rX10_inserts_11, rX10_inserts_14, rX10_inserts_15, rX10_inserts_17, rX10_inserts_20, rX10_inserts_21, rX10_inserts_22, rX10_inserts_25, rX10_inserts_26, rX10_inserts_27, rX10_inserts_29, rX10_inserts_32, rX10_inserts_33, rX10_inserts_35, o, q0, w1, rf_some, true_and, v0, cl0, c2.1.1, M_in, tl_some, ifn10, rgN (show S.2.1.1.length < 1000 by omega), mrF ok, mrB ok]
      simp only [rX10_inserts_38]
      rw [if_pos hk, if_neg (show ¬ ¬ nI S.2.1.1.length = 10 from fun z => z (by rw [hf]; rfl))]
    · rw [if_neg hf]
      obtain ⟨kk, hkk, rfl⟩ := inR_of (by omega) hk
      rw [nI_clamp (show kk < 2 ^ 31 by omega)]
      obtain ⟨I1, a1, a2, a3, a4, a5⟩ := M_remembers (J := J) ms hv
      have e271 : I1 271 = I 271 := a2 271 (by decide) (by decide) (by decide) (by decide)
      obtain ⟨I2, b1, b2, b3, b4, b5, b6, b7⟩ := M_opens (I := I1) (J := J) (k := kk) ok (show kk ≤ S.2.1.1.length by omega) (by omega) (by rw [e271]; exact c2.1.1)
      have tx2 : txIs I2 S.1 := ⟨by rw [b6 270 (by decide) (by decide), a3 5 (by decide)]; exact c5.1, by rw [b6 274 (by decide) (by decide), a2 274 (by decide) (by decide) (by decide) (by decide)]; exact c5.2⟩
      obtain ⟨I3, d1, d2, d3, d4⟩ := M_text (J := J) ok (show kk < 10 by omega) hT tx2
      have hlen : (S.2.1.1.take kk ++ S.1 :: S.2.1.1.drop kk).length = S.2.1.1.length + 1 := by simp; omega
      have hnow : nowIs (I3 271) (S.2.1.1.take kk ++ S.1 :: S.2.1.1.drop kk, S.2.1.2) := by
        refine nowIs.ls (ls := S.2.1.1) (N := I 271) c2 (fun z hz => ?_) ?_ (fun j hj => ?_)
        · rw [d2 z (by omega) (by omega), b5 z hz, e271]
        · rw [d2 0 (by omega) (by omega), b1, hlen]
        · rw [hlen] at hj
          rw [ins_getD (by omega)]
          by_cases q1 : j < kk
          · rw [if_pos q1]
            have := (b2 j q1).1
            rw [e271] at this
            exact ((d2.ln (by omega) (by omega) (by omega)).tr this).ln (c2.2.1 j (by omega)) (hv.2.1.1.2 j (by omega))
          · rw [if_neg q1]
            by_cases q2 : j = kk
            · rw [if_pos q2, q2]; exact d1
            · rw [if_neg q2]
              have := (b4 j (by omega) (by omega)).1
              rw [e271] at this
              exact ((d2.ln (by omega) (by omega) q2).tr this).ln (c2.2.1 (j - 1) (by omega)) (hv.2.1.1.2 (j - 1) (by omega))
      obtain ⟨I4, g1, g2, g3, g4⟩ := N_ch (J := J) (Z := (S.2.1.1.take kk ++ S.1 :: S.2.1.1.drop kk, S.2.1.2)) (first := kk) (last := kk) (nw := fun j => j == kk) (E := fun j => if j < kk then stAt S.2.1.2.1 S.2.1.1 (j + 1) else stAt S.2.1.2.1 S.2.1.1 j) ms a1 a2 a3 (I2 := I3) (fun c z1 z2 => by rw [d3 c z1, b6 c z1 z2]) (zV_ins hv (by omega) (by omega)) hnow (by omega) (by show kk ≤ (S.2.1.1.take kk ++ S.1 :: S.2.1.1.drop kk).length; omega) (fun j => by split <;> exact stAt_ok _ _ _) (fun j h1 h2 => by
        have h2' : j < S.2.1.1.length + 1 := by rw [← hlen]; exact h2
        unfold wasM
        by_cases e : j = kk
        · rw [if_pos (by simp [e]), d3 279 (by decide), e]; exact b3.2
        · rw [if_neg (by simp [e])]
          dsimp only
          rw [if_neg (show ¬ j < kk by omega)]
          refine ⟨j - 1, by omega, ?_, ?_⟩
          · rw [d3 279 (by decide), (b4 j (by omega) (by omega)).2, (a4 (j - 1) (by omega)).2]
          · rw [d3 278 (by decide), b6 278 (by decide) (by decide), (a4 (j - 1) (by omega)).1, (c7 (j - 1) (by omega)).2, show j - 1 + 1 = j by omega]) rfl
      refine ⟨I4, g1, g2, fun K => ?_⟩
      have e0 : I4 271 0 = nI (S.2.1.1.length + 1) := by rw [g3, d2 0 (by omega) (by omega), b1]
      simp only [rX10_inserts_0, rX10_inserts_1, rX10_inserts_2, rX10_inserts_3, rX10_inserts_6, rX10_inserts_7, rX10_inserts_8, rX10_inserts_11, rX10_inserts_14, rX10_inserts_15, rX10_inserts_17, rX10_inserts_20, rX10_inserts_21, rX10_inserts_22, rX10_inserts_25, rX10_inserts_26, rX10_inserts_27, rX10_inserts_29, rX10_inserts_32, rX10_inserts_33, rX10_inserts_35, rX10_inserts_38, rX10_inserts_39, rX10_inserts_40, o, q0, w1, rf_some, true_and, v0, cl0, c2.1.1, M_in, tl_some, ifn10, rgN (show S.2.1.1.length < 1000 by omega), mrF ok, mrB ok]
      rw [if_pos hk, if_pos (show ¬ nI S.2.1.1.length = 10 from fun z => hf (nI_inj (b := 10) (by omega) (by decide) z)), a5]
      simp only [tl_none, rX10_inserts_43, rX10_inserts_44, rX10_inserts_45, o, true_and]
      rw [b7]
      simp only [tl_none, rX10_inserts_48, rX10_inserts_49, rX10_inserts_50, o, true_and]
      rw [d4]
      simp only [tl_none, rX10_inserts_53, rX10_inserts_54, rX10_inserts_55, rX10_inserts_56, o, true_and]
      rw [g4]
      simp only [tl_none, rX10_inserts_59, rX10_inserts_60, rX10_inserts_63, rX10_inserts_64, rX10_inserts_65, o, q0, w1, rf_some, true_and, v0, cl0, e0]
  · rw [if_pos hk]
    refine MA.bad ms (fun K => ?_)
    simp only [rX10_inserts_0, rX10_inserts_1, rX10_inserts_2, rX10_inserts_3, rX10_inserts_6, rX10_inserts_7, rX10_inserts_8, rX10_inserts_11, rX10_inserts_14, rX10_inserts_15, rX10_inserts_17, o, q0, w1, rf_some, true_and, v0, cl0, c2.1.1, M_in, tl_some, ifn10, rgN (show S.2.1.1.length < 1000 by omega), mrB ok]
    simp only [rX10_inserts_20]
    rw [if_neg hk]
end MB
