section MC
variable {w : WS} {I : Nat → Nat → Int32} {Q : Nat → Nat → Option Nat} {J : Nat → Nat → Int64} {K : Option Value → WS → HS → Prop} {S : SP}
theorem M_dr_loop {k : Int32} {n : Nat} (ok : mOK w Q) (hn : n ≤ 10) (h1n : 1 ≤ n) : ∀ d e (I : Nat → Nat → Int32) (v3 : Value), d + e = n - 1 → I 271 0 = nI n → ∃ I', (∀ j, e ≤ j → j < n - 1 → lnE (I' 271) j (I 271) (j + 1) ∧ I' 279 j = I 279 (j + 1)) ∧ (∀ j, j < 10 → j < e ∨ n - 1 ≤ j → lnE (I' 271) j (I 271) j ∧ I' 279 j = I 279 j) ∧ (∀ z, z < 3 ∨ 313 ≤ z → I' 271 z = I 271 z) ∧ (∀ c, c ≠ 271 → c ≠ 279 → I' c = I c) ∧ ∀ K, (WP mX10_drops 21 [.ref 270, .int k, .int (nI e), v3] [] w (I, Q, J) K ↔ WP mX10_drops 47 [.ref 270, .int k, .int (nI (n - 1)), v3] [] w (I', Q, J) K) := by
  obtain ⟨o, ⟨q0, q1, q3, q4, q7, q8, q9, q10, q11⟩, w1, -⟩ := id ok
  have v0 : vin 0 373 := vin_nI (n := 0) (by decide) (by decide)
  have em : nI n - 1 = nI (n - 1) := pk_sub h1n
  intro d
  induction d with
  | zero =>
    intro e I v3 he h0
    refine ⟨I, fun j h1 h2 => by omega, fun _ _ _ => ⟨lnE.rf, rfl⟩, fun _ _ => rfl, fun _ _ _ => rfl, fun K => ?_⟩
    rw [rX10_drops_21]
    simp only [rX10_drops_22, rX10_drops_23, rX10_drops_26, rX10_drops_27, rX10_drops_28, rX10_drops_29, rX10_drops_30, o, q0, w1, rf_some, true_and, v0, cl0, h0, em]
    rw [if_pos (nI_le (by omega) (by omega)), show e = n - 1 by omega]
  | succ d ih =>
    intro e I v3 he h0
    obtain ⟨I1, f1, f2, f3, f4, f5, f6⟩ := M_moves (I := I) (J := J) (a := e + 1) (b := e) ok (by omega) (by omega) (by omega)
    obtain ⟨I', g1, g2, g3, g4, g5⟩ := ih (e + 1) I1 v3 (by omega) (by rw [f2 0 (by omega) (by omega)]; exact h0)
    refine ⟨I', fun j h1 h2 => ?_, fun j h1 h2 => ?_, fun z hz => (g3 z hz).trans (f2 z (by omega) (by omega)), fun c z1 z2 => (g4 c z1 z2).trans (f5 c z1 z2), fun K => ?_⟩
    · by_cases q : j = e
      · subst q
        have := g2 j (by omega) (by omega)
        exact ⟨this.1.tr f1, by rw [this.2, f3]⟩
      · have := g1 j (by omega) h2
        exact ⟨this.1.tr (f2.ln (by omega) (by omega) (by omega)), by rw [this.2, f4 _ (by omega)]⟩
    · have := g2 j h1 (by omega)
      exact ⟨this.1.tr (f2.ln h1 (by omega) (by omega)), by rw [this.2, f4 _ (by omega)]⟩
    · rw [← g5 K, rX10_drops_21]
      simp only [rX10_drops_22, rX10_drops_23, rX10_drops_26, rX10_drops_27, rX10_drops_28, rX10_drops_29, rX10_drops_30, rX10_drops_33, rX10_drops_34, rX10_drops_35, rX10_drops_36, rX10_drops_37, rX10_drops_38, o, q0, w1, rf_some, true_and, v0, cl0, h0, em, nI_1]
      rw [if_neg (nI_ge (show e < n - 1 by omega) (by omega)), f6]
      simp only [tl_none, rX10_drops_41, rX10_drops_44, nI_1]
theorem M_dr_zero {k : Int32} {l : Nat} (ok : mOK w Q) (hl : l < 10) : ∀ n i (I : Nat → Nat → Int32), n + i = 30 → ∃ I', (∀ z, z < 13 + 30 * l ∨ 43 + 30 * l ≤ z → I' 271 z = I 271 z) ∧ (∀ c, c ≠ 271 → I' c = I c) ∧ ∃ v3, ∀ K, (WP mX10_drops 75 [.ref 270, .int k, .int (nI l), .int (nI i)] [] w (I, Q, J) K ↔ WP mX10_drops 102 [.ref 270, .int k, .int (nI l), v3] [] w (I', Q, J) K) := by
  obtain ⟨o, ⟨q0, q1, q3, q4, q7, q8, q9, q10, q11⟩, w1, -⟩ := id ok
  intro n
  induction n with
  | zero =>
    intro i I hi
    refine ⟨I, fun _ _ => rfl, fun _ _ => rfl, .int (nI i), fun K => ?_⟩
    rw [rX10_drops_75]
    simp only [rX10_drops_76, rX10_drops_78]
    rw [if_pos (show (30 : Int32) ≤ nI i from nI_le (show 30 ≤ i by omega) (by omega))]
  | succ n ih =>
    intro i I hi
    obtain ⟨I', f1, f2, v3, f3⟩ := ih (i + 1) (u2 I 271 (13 + 30 * l + i) 0) (by omega)
    refine ⟨I', fun z hz => by rw [f1 z hz, u2_ne (Or.inr (by omega))], fun c hc => (f2 c hc).trans (Fr_u2 c hc), v3, fun K => ?_⟩
    rw [← f3 K, rX10_drops_75]
    simp only [rX10_drops_76, rX10_drops_78, rX10_drops_81, rX10_drops_82, rX10_drops_85, rX10_drops_87, rX10_drops_89, rX10_drops_90, rX10_drops_91, rX10_drops_92, rX10_drops_93, rX10_drops_94, rX10_drops_95, rX10_drops_96, rX10_drops_99, o, q0, w1, rf_some, true_and, ixB, vin_nI (show 13 + 30 * l + i < 373 by omega) (by decide), nI_clamp (show 13 + 30 * l + i < 2 ^ 31 by omega), ne_eq, show ¬ (271 : Nat) = 0 by decide, not_false_eq_true, nI_1]
    rw [if_neg (show ¬ (30 : Int32) ≤ nI i from nI_ge (show i < 30 by omega) (by decide))]
theorem era_getD {ls : List (List Int32)} {k j : Nat} : (ls.eraseIdx k).getD j [] = if j < k then ls.getD j [] else ls.getD (j + 1) [] := by
  simp only [List.getD_eq_getElem?_getD, List.getElem?_eraseIdx]
  split <;> rfl
theorem N_drops {k : Int32} (ms : MS w I Q S) (hv : SV S) : MA w I Q J mX10_drops [.ref 270, .int k, .null, .null] (.int (sp_drops k S).1) (sp_drops k S).2 := by
  obtain ⟨ok, c2, c3, c4, c5, c6, c7⟩ := id ms
  obtain ⟨o, ⟨q0, q1, q3, q4, q7, q8, q9, q10, q11⟩, w1, -⟩ := id ok
  have h10 := hv.2.1.1.1
  have v0 : vin 0 373 := vin_nI (n := 0) (by decide) (by decide)
  unfold sp_drops
  by_cases hk : inR k S.2.1.1.length
  · rw [if_neg (fun z => z hk)]
    obtain ⟨kk, hkk, rfl⟩ := inR_of (by omega) hk
    rw [nI_clamp (show kk < 2 ^ 31 by omega)]
    obtain ⟨I1, a1, a2, a3, a4, a5⟩ := M_remembers (J := J) ms hv
    have e271 : I1 271 = I 271 := a2 271 (by decide) (by decide) (by decide) (by decide)
    obtain ⟨I2, b1, b2, b3, b4, b5⟩ := M_dr_loop (J := J) (k := nI kk) (n := S.2.1.1.length) ok h10 (by omega) (S.2.1.1.length - 1 - kk) kk I1 .null (by omega) (by rw [e271]; exact c2.1.1)
    have h02 : I2 271 0 = nI S.2.1.1.length := by rw [b3 0 (by omega), e271]; exact c2.1.1
    obtain ⟨I3, d1, d2, v3, d3⟩ := M_dr_zero (J := J) (k := nI kk) (l := S.2.1.1.length - 1) ok (by omega) 30 0 (u2 (u2 I2 271 0 (nI (S.2.1.1.length - 1))) 271 (3 + (S.2.1.1.length - 1)) 0) rfl
    have hlen : (S.2.1.1.eraseIdx kk).length = S.2.1.1.length - 1 := by rw [List.length_eraseIdx, if_pos hkk]
    have ez : ∀ z, z ≠ 0 → z ≠ 3 + (S.2.1.1.length - 1) → z < 13 + 30 * (S.2.1.1.length - 1) ∨ 43 + 30 * (S.2.1.1.length - 1) ≤ z → I3 271 z = I2 271 z := fun z z1 z2 z3 => by rw [d1 z z3, u2_ne (Or.inr z2), u2_ne (Or.inr z1)]
    have e30 : I3 271 0 = nI (S.2.1.1.length - 1) := by rw [d1 0 (by omega), u2_ne (Or.inr (by omega)), u2_same]
    have eoth : ∀ c, c ≠ 271 → I3 c = I2 c := fun c hc => by rw [d2 c hc, Fr_u2 c hc, Fr_u2 c hc]
    have hZ : zV (S.2.1.1.eraseIdx kk, S.2.1.2) := by
      refine ⟨⟨by show (S.2.1.1.eraseIdx kk).length ≤ 10; omega, fun j hj => ?_⟩, hv.2.1.2⟩
      have hj : j < S.2.1.1.length - 1 := by rw [← hlen]; exact hj
      show ((S.2.1.1.eraseIdx kk).getD j []).length ≤ 30
      rw [era_getD]
      split
      · exact hv.2.1.1.2 j (by omega)
      · exact hv.2.1.1.2 (j + 1) (by omega)
    have hnow : nowIs (I3 271) (S.2.1.1.eraseIdx kk, S.2.1.2) := by
      refine nowIs.ls (ls := S.2.1.1) (N := I 271) c2 (fun z hz => ?_) (by rw [e30, hlen]) (fun j hj => ?_)
      · rw [ez z (by omega) (by omega) (by omega), b3 z (by omega), e271]
      · rw [hlen] at hj
        have hln : lnE (I3 271) j (I2 271) j := ⟨ez _ (by omega) (by omega) (by omega), fun i hi => ez _ (by omega) (by omega) (by omega)⟩
        rw [era_getD]
        by_cases q1 : j < kk
        · rw [if_pos q1]
          have := (b2 j (by omega) (by omega)).1
          rw [e271] at this
          exact (hln.tr this).ln (c2.2.1 j (by omega)) (hv.2.1.1.2 j (by omega))
        · rw [if_neg q1]
          have := (b1 j (by omega) (by omega)).1
          rw [e271] at this
          exact (hln.tr this).ln (c2.2.1 (j + 1) (by omega)) (hv.2.1.1.2 (j + 1) (by omega))
    obtain ⟨I4, g1, g2, g3, g4⟩ := N_ch (J := J) (Z := (S.2.1.1.eraseIdx kk, S.2.1.2)) (first := kk) (last := kk) (nw := fun _ => false) (E := fun j => if j < kk then stAt S.2.1.2.1 S.2.1.1 (j + 1) else stAt S.2.1.2.1 S.2.1.1 (j + 2)) ms a1 a2 a3 (I2 := I3) (fun c z1 z2 => by rw [eoth c z1, b4 c z1 z2]) hZ hnow (by omega) (by show kk ≤ (S.2.1.1.eraseIdx kk).length; omega) (fun j => by split <;> exact stAt_ok _ _ _) (fun j h1 h2 => by
      have h2' : j < S.2.1.1.length - 1 := by rw [← hlen]; exact h2
      unfold wasM
      rw [if_neg (by simp)]
      dsimp only
      rw [if_neg (show ¬ j < kk by omega)]
      refine ⟨j + 1, by omega, ?_, ?_⟩
      · rw [eoth 279 (by decide), (b1 j h1 h2').2, (a4 (j + 1) (by omega)).2]
      · rw [eoth 278 (by decide), b4 278 (by decide) (by decide), (a4 (j + 1) (by omega)).1, (c7 (j + 1) (by omega)).2]) rfl
    refine ⟨I4, g1, g2, fun K => ?_⟩
    have e0 : I4 271 0 = nI (S.2.1.1.length - 1) := by rw [g3, e30]
    simp only [rX10_drops_0, rX10_drops_1, rX10_drops_2, o, true_and, M_isLine ok c2.1.1 (show S.2.1.1.length < 1000 by omega), tl_some]
    simp only [rX10_drops_5, rX10_drops_8, rX10_drops_9, rX10_drops_11, rX10_drops_14, rX10_drops_15, rX10_drops_16, ifn10, o, true_and]
    rw [if_pos hk, a5]
    simp only [tl_none, rX10_drops_19, rX10_drops_20]
    rw [b5]
    simp only [rX10_drops_47, rX10_drops_48, rX10_drops_51, rX10_drops_52, rX10_drops_53, rX10_drops_54, rX10_drops_55, rX10_drops_56, rX10_drops_57, rX10_drops_58, rX10_drops_61, rX10_drops_62, rX10_drops_63, rX10_drops_64, rX10_drops_65, rX10_drops_68, rX10_drops_69, rX10_drops_70, rX10_drops_71, rX10_drops_72, rX10_drops_73, rX10_drops_74, o, q0, w1, rf_some, true_and, v0, cl0, h02, show nI S.2.1.1.length - 1 = nI (S.2.1.1.length - 1) from pk_sub (show 1 ≤ S.2.1.1.length by omega), u2_same, ixL, vin_nI (show 3 + (S.2.1.1.length - 1) < 373 by omega) (by decide), nI_clamp (show 3 + (S.2.1.1.length - 1) < 2 ^ 31 by omega), ne_eq, show ¬ (271 : Nat) = 0 by decide, not_false_eq_true]
    rw [show (0 : Int32) = nI 0 from rfl] at d3 ⊢
    rw [d3]
    simp only [rX10_drops_102, rX10_drops_103, rX10_drops_104, rX10_drops_105, o, true_and]
    rw [g4]
    simp only [tl_none, rX10_drops_108, rX10_drops_109, rX10_drops_112, rX10_drops_113, rX10_drops_114, o, q0, w1, rf_some, true_and, v0, cl0, e0]
  · rw [if_pos hk]
    refine MA.bad ms (fun K => ?_)
    simp only [rX10_drops_0, rX10_drops_1, rX10_drops_2, o, true_and, M_isLine ok c2.1.1 (show S.2.1.1.length < 1000 by omega), tl_some]
    simp only [rX10_drops_5, rX10_drops_8, rX10_drops_9, rX10_drops_11, rX10_drops_14, ifn10, o, true_and, mrB ok, tl_some]
    rw [if_neg hk]
/-- whether the text is another than a line's bytes -/
theorem M_set_loop {k : Nat} {l T : List Int32} {hd : Int32} (ok : mOK w Q) (hk : k < 10) (hT : T.length ≤ 30) (hl : l.length ≤ 30) (r : lnM (I 271) k l) (tx : txIs I T) : ∀ n i (b : Bool), n + i = T.length → (b = false → l.length = T.length ∧ ∀ t, t < i → l.getD t 0 = T.getD t 0) → (b = true → l ≠ T) → (WP mX10_sets 45 [.ref 270, .int (nI k), .int hd, .int (if b then 1 else 0), .int (nI i)] [] w (I, Q, J) K ↔ WP mX10_sets 95 [.ref 270, .int (nI k), .int hd, .int (if l = T then 0 else 1), .int (nI T.length)] [] w (I, Q, J) K) := by
  obtain ⟨o, ⟨q0, q1, q3, q4, q7, q8, q9, q10, q11⟩, w1, w2, w3, w4, -⟩ := id ok
  intro n
  induction n with
  | zero =>
    intro i b hi hb1 hb2
    rw [rX10_sets_45]
    simp only [rX10_sets_47, rX10_sets_48, rX10_sets_51, o, true_and, tx.1]
    rw [if_pos (nI_le (by omega) (by omega)), show i = T.length by omega]
    cases b with
    | false =>
      obtain ⟨z1, z2⟩ := hb1 rfl
      rw [if_pos (leq_getD z1 (fun t ht => z2 t (by omega)))]; rfl
    | true => rw [if_neg (hb2 rfl)]; rfl
  | succ n ih =>
    intro i b hi hb1 hb2
    have hiT : i < T.length := by omega
    rw [rX10_sets_45]
    simp only [rX10_sets_47, rX10_sets_48, rX10_sets_51, rX10_sets_54, rX10_sets_55, o, true_and, tx.1]
    rw [if_neg (nI_ge hiT (by omega))]
    cases b with
    | true =>
      have := ih (i + 1) true (by omega) (fun z => by simp at z) hb2
      rw [← this, if_pos (by decide)]
      simp only [rX10_sets_83, rX10_sets_84, rX10_sets_87, rX10_sets_88, rX10_sets_89, rX10_sets_92, nI_1]
      rfl
    | false =>
      obtain ⟨z1, z2⟩ := hb1 rfl
      rw [if_neg (by simp)]
      simp only [rX10_sets_58, rX10_sets_59, rX10_sets_62, rX10_sets_64, rX10_sets_66, rX10_sets_67, rX10_sets_68, rX10_sets_69, rX10_sets_71, rX10_sets_72, rX10_sets_73, rX10_sets_74, rX10_sets_77, rX10_sets_79, rX10_sets_80, o, q0, q4, w1, w4, rf_some, true_and, ixB, vin_nI (show 13 + 30 * k + i < 373 by omega) (by decide), nI_clamp (show 13 + 30 * k + i < 2 ^ 31 by omega), vin_nI (show i < 30 by omega) (by decide), nI_clamp (show i < 2 ^ 31 by omega), r.2 i (by omega), tx.2 i hiT]
      by_cases e : l.getD i 0 = T.getD i 0
      · have := ih (i + 1) false (by omega) (fun _ => ⟨z1, fun t ht => by
          by_cases q : t = i
          · rw [q]; exact e
          · exact z2 t (by omega)⟩) (fun z => by simp at z)
        rw [← this, if_pos e]
        simp only [rX10_sets_87, rX10_sets_88, rX10_sets_89, rX10_sets_92, nI_1]
        rfl
      · have := ih (i + 1) true (by omega) (fun z => by simp at z) (fun _ z => e (by rw [z]))
        rw [← this, if_neg e]
        simp only [rX10_sets_83, rX10_sets_84, rX10_sets_87, rX10_sets_88, rX10_sets_89, rX10_sets_92, nI_1]
        rfl
theorem N_sets {k : Int32} (ms : MS w I Q S) (hv : SV S) : MA w I Q J mX10_sets [.ref 270, .int k, .null, .null, .null] (.int (sp_sets k S).1) (sp_sets k S).2 := by
  obtain ⟨ok, c2, c3, c4, c5, c6, c7⟩ := id ms
  obtain ⟨o, ⟨q0, q1, q3, q4, q7, q8, q9, q10, q11⟩, w1, -⟩ := id ok
  have h10 := hv.2.1.1.1
  have hT := hv.1
  have v0 : vin 0 373 := vin_nI (n := 0) (by decide) (by decide)
  unfold sp_sets
  by_cases hk : inR k S.2.1.1.length
  · rw [if_neg (fun z => z hk)]
    obtain ⟨kk, hkk, rfl⟩ := inR_of (by omega) hk
    rw [nI_clamp (show kk < 2 ^ 31 by omega)]
    have h30 := hv.2.1.1.2 kk hkk
    obtain ⟨I1, a1, a2, a3, a4, a5⟩ := M_remembers (J := J) ms hv
    have e271 : I1 271 = I 271 := a2 271 (by decide) (by decide) (by decide) (by decide)
    have tx1 : txIs I1 S.1 := ⟨by rw [a3 5 (by decide)]; exact c5.1, by rw [a2 274 (by decide) (by decide) (by decide) (by decide)]; exact c5.2⟩
    have r1 : lnM (I1 271) kk (S.2.1.1.getD kk []) := by rw [e271]; exact c2.2.1 kk hkk
    obtain ⟨I2, b1, b2, b3, b4⟩ := M_text (J := J) ok (show kk < 10 by omega) hT tx1
    have hnow : nowIs (I2 271) (S.2.1.1.set kk S.1, S.2.1.2) := by
      refine nowIs.ls (ls := S.2.1.1) (N := I 271) c2 (fun z hz => ?_) ?_ (fun j hj => ?_)
      · rw [b2 z (by omega) (by omega), e271]
      · rw [b2 0 (by omega) (by omega), e271, List.length_set]; exact c2.1.1
      · rw [List.length_set] at hj
        rw [lset_getD]
        by_cases e : kk = j
        · rw [if_pos ⟨e, hkk⟩, ← e]; exact b1
        · rw [if_neg (fun z => e z.1)]
          have := b2.ln (k := j) (by omega) (by omega) (fun z => e z.symm)
          rw [e271] at this
          exact this.ln (c2.2.1 j hj) (hv.2.1.1.2 j hj)
    have hd : ∀ {K : Option Value → WS → HS → Prop}, WP mX10_sets 0 [.ref 270, .int (nI kk), .null, .null, .null] [] w (I, Q, J) K ↔ WP mX10_sets 100 [.ref 270, .int (nI kk), .int (nI (S.2.1.1.getD kk []).length), .int (if S.2.1.1.getD kk [] = S.1 then 0 else 1), .int (nI S.1.length)] [] w (I2, Q, J) K := by
      intro K
      simp only [rX10_sets_0, rX10_sets_1, rX10_sets_2, o, true_and, M_isLine ok c2.1.1 (show S.2.1.1.length < 1000 by omega), tl_some]
      simp only [rX10_sets_5, rX10_sets_8, rX10_sets_9, rX10_sets_11, rX10_sets_14, rX10_sets_15, rX10_sets_16, ifn10, o, true_and]
      rw [if_pos hk, a5]
      simp only [tl_none, rX10_sets_19, rX10_sets_20, rX10_sets_23, rX10_sets_24, rX10_sets_25, rX10_sets_26, rX10_sets_27, rX10_sets_28, rX10_sets_29, rX10_sets_30, rX10_sets_33, o, q0, w1, rf_some, true_and, ixL, vin_nI (show 3 + kk < 373 by omega) (by decide), nI_clamp (show 3 + kk < 2 ^ 31 by omega), r1.1, tx1.1]
      have fin : ∀ b : Bool, (b = false → (S.2.1.1.getD kk []).length = S.1.length) → (b = true → S.2.1.1.getD kk [] ≠ S.1) → (WP mX10_sets 41 [.ref 270, .int (nI kk), .int (nI (S.2.1.1.getD kk []).length), .null, .null] [.int (if b then 1 else 0)] w (I1, Q, J) K ↔ WP mX10_sets 100 [.ref 270, .int (nI kk), .int (nI (S.2.1.1.getD kk []).length), .int (if S.2.1.1.getD kk [] = S.1 then 0 else 1), .int (nI S.1.length)] [] w (I2, Q, J) K) := by
        intro b hb1 hb2
        simp only [rX10_sets_41, rX10_sets_42, rX10_sets_43]
        rw [show (0 : Int32) = nI 0 from rfl] at *
        have := M_set_loop (J := J) (K := K) (hd := nI (S.2.1.1.getD kk []).length) ok (show kk < 10 by omega) hT h30 r1 tx1 S.1.length 0 b rfl (fun z => ⟨hb1 z, fun t ht => by omega⟩) hb2
        rw [show (0 : Int32) = nI 0 from rfl] at this
        rw [this]
        simp only [rX10_sets_95, rX10_sets_96, rX10_sets_97, o, true_and]
        rw [b4]
        simp only [tl_none]
      by_cases e : (S.2.1.1.getD kk []).length = S.1.length
      · rw [if_pos (by rw [e]), ← fin false (fun _ => e) (fun z => by simp at z)]
        simp only [rX10_sets_40]
        rfl
      · rw [if_neg (fun z => e (nI_inj (by omega) (by omega) z)), ← fin true (fun z => by simp at z) (fun _ z => e (by rw [z]))]
        simp only [rX10_sets_36, rX10_sets_37]
        rfl
    have hwas : ∀ j, j < S.2.1.1.length → wasM I2 (fun _ => false) (fun j => stAt S.2.1.2.1 S.2.1.1 (j + 1)) j := fun j hj => by
      unfold wasM
      rw [if_neg (by simp)]
      exact ⟨j, by omega, by rw [b3 279 (by decide)]; exact (a4 j (by omega)).2, by rw [b3 278 (by decide), (a4 j (by omega)).1, (c7 j hj).2]⟩
    by_cases he : S.2.1.1.getD kk [] = S.1
    · rw [if_pos he]
      have hset : S.2.1.1.set kk S.1 = S.2.1.1 := by
        rw [← he, List.getD_eq_getElem?_getD, List.getElem?_eq_getElem hkk]
        exact List.set_getElem_self hkk
      rw [hset] at hnow
      obtain ⟨I3, g1, g2, g3, g4⟩ := N_ch (J := J) (Z := S.2.1) (first := S.2.1.1.length) (last := kk) (nw := fun _ => false) (E := fun j => stAt S.2.1.2.1 S.2.1.1 (j + 1)) ms a1 a2 a3 (I2 := I2) (fun c z1 z2 => b3 c z1) hv.2.1 hnow (by omega) (Nat.le_refl _) (fun j => stAt_ok _ _ _) (fun j h1 h2 => by omega) (an := 0) (by unfold anewN; rw [Nat.sub_self]; rfl)
      refine ⟨I3, g1, g2, fun K => ?_⟩
      rw [hd, if_pos he]
      have e0 : I2 271 0 = nI S.2.1.1.length := hnow.1.1
      simp only [rX10_sets_100, rX10_sets_101, rX10_sets_102, rX10_sets_109, rX10_sets_110, rX10_sets_113, rX10_sets_114, rX10_sets_115, rX10_sets_116, o, q0, w1, rf_some, true_and, v0, cl0, e0, if_true]
      rw [g4]
      simp only [tl_none, rX10_sets_119, rX10_sets_120]
    · rw [if_neg he]
      obtain ⟨I3, g1, g2, g3, g4⟩ := N_ch (J := J) (Z := (S.2.1.1.set kk S.1, S.2.1.2)) (first := kk) (last := kk) (nw := fun _ => false) (E := fun j => stAt S.2.1.2.1 S.2.1.1 (j + 1)) ms a1 a2 a3 (I2 := I2) (fun c z1 z2 => b3 c z1) ⟨lsV_set hv.2.1.1 hT, hv.2.1.2⟩ hnow (by omega) (by show kk ≤ (S.2.1.1.set kk S.1).length; rw [List.length_set]; omega) (fun j => stAt_ok _ _ _) (fun j h1 h2 => hwas j (by have h2 : j < (S.2.1.1.set kk S.1).length := h2; rw [List.length_set] at h2; exact h2)) rfl
      refine ⟨I3, g1, g2, fun K => ?_⟩
      rw [hd, if_neg he]
      simp only [rX10_sets_100, rX10_sets_101, rX10_sets_102, rX10_sets_105, rX10_sets_106, rX10_sets_109, rX10_sets_110, rX10_sets_113, rX10_sets_114, rX10_sets_115, rX10_sets_116, o, true_and]
      rw [if_neg (by decide), g4]
      simp only [tl_none, rX10_sets_119, rX10_sets_120]
  · rw [if_pos hk]
    refine MA.bad ms (fun K => ?_)
    simp only [rX10_sets_0, rX10_sets_1, rX10_sets_2, o, true_and, M_isLine ok c2.1.1 (show S.2.1.1.length < 1000 by omega), tl_some]
    simp only [rX10_sets_5, rX10_sets_8, rX10_sets_9, rX10_sets_11, rX10_sets_14, ifn10, o, true_and, mrB ok, tl_some]
    rw [if_neg hk]
end MC
