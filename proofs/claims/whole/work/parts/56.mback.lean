section MG
variable {w : WS} {I : Nat → Nat → Int32} {Q : Nat → Nat → Option Nat} {J : Nat → Nat → Int64} {K : Option Value → WS → HS → Prop} {S : SP}
theorem M_un_in {a b : Nat} {x1 x3 : Int32} (ok : mOK w Q) (hab : a ≤ b) (hb : b < 4) : ∀ n i (I : Nat → Nat → Int32), n + i = 5 → ∃ I', (∀ j, i ≤ j → j < 5 → I' 271 (317 + 5 * a + j) = I 271 (317 + 5 * b + j)) ∧ (∀ z, z < 317 + 5 * a + i ∨ 317 + 5 * a + 5 ≤ z → I' 271 z = I 271 z) ∧ (∀ c, c ≠ 271 → I' c = I c) ∧ ∀ K, (WP mX10_unword 83 [.ref 270, .int x1, .int (nI a), .int x3, .int (nI b), .int (nI i)] [] w (I, Q, J) K ↔ WP mX10_unword 126 [.ref 270, .int x1, .int (nI a), .int x3, .int (nI b), .int (nI 5)] [] w (I', Q, J) K) := by
  obtain ⟨o, ⟨q0, -⟩, w1, -⟩ := id ok
  intro n
  induction n with
  | zero =>
    intro i I hi
    have : i = 5 := by omega
    subst this
    refine ⟨I, fun j h1 h2 => by omega, fun _ _ => rfl, fun _ _ => rfl, fun K => ?_⟩
    rw [rX10_unword_83]
    simp only [rX10_unword_85, rX10_unword_86]
    rw [if_pos (by decide)]
  | succ n ih =>
    intro i I hi
    obtain ⟨I', f1, f2, f3, f4⟩ := ih (i + 1) (u2 I 271 (317 + 5 * a + i) (I 271 (317 + 5 * b + i))) (by omega)
    refine ⟨I', fun j h1 h2 => ?_, fun z hz => ?_, fun c hc => (f3 c hc).trans (Fr_u2 c hc), fun K => ?_⟩
    · by_cases e : j = i
      · subst e; rw [f2 _ (Or.inl (by omega)), u2_same]
      · rw [f1 j (by omega) h2, u2_ne (Or.inr (by omega))]
    · rw [f2 z (by omega), u2_ne (Or.inr (by omega))]
    · rw [← f4 K, rX10_unword_83]
      simp only [rX10_unword_85, rX10_unword_86, rX10_unword_89, rX10_unword_90, rX10_unword_93, rX10_unword_96, rX10_unword_97, rX10_unword_98, rX10_unword_99, rX10_unword_100, rX10_unword_102, rX10_unword_103, rX10_unword_104, rX10_unword_107, rX10_unword_110, rX10_unword_111, rX10_unword_113, rX10_unword_114, rX10_unword_115, rX10_unword_117, rX10_unword_118, rX10_unword_119, rX10_unword_120, rX10_unword_123, o, q0, w1, rf_some, true_and, ixW, vin_nI (show 317 + 5 * a + i < 373 by omega) (by decide), nI_clamp (show 317 + 5 * a + i < 2 ^ 31 by omega), vin_nI (show 317 + 5 * b + i < 373 by omega) (by decide), nI_clamp (show 317 + 5 * b + i < 2 ^ 31 by omega), ne_eq, show ¬ (271 : Nat) = 0 by decide, not_false_eq_true, nI_1]
      rw [if_neg (show ¬ (5 : Int32) ≤ nI i from nI_ge (show i < 5 by omega) (by decide))]
theorem ixX (k : Nat) : (317 : Int32) + 5 * nI k = nI (317 + 5 * k) := by rw [show (317 : Int32) = nI 317 from rfl, show (5 : Int32) = nI 5 from rfl, nI_mul, nI_add]
theorem M_un_loop {x : Int32} {W : List (List Int32)} (ok : mOK w Q) (hW : wdV W) : ∀ n k (V : List (List Int32)) (I : Nat → Nat → Int32) (v5 : Value), n + k = W.length → V.length ≤ k → (∀ j, j < V.length → (V.getD j []).length ≤ 5 ∧ wdM (I 271) j (V.getD j [])) → (∀ j, k ≤ j → j < W.length → wdM (I 271) j (W.getD j [])) → ∃ I', (∀ j, j < (V ++ remF (97 + x) W n k).length → wdM (I' 271) j ((V ++ remF (97 + x) W n k).getD j [])) ∧ (∀ z, z < 313 ∨ 337 ≤ z → I' 271 z = I 271 z) ∧ (∀ c, c ≠ 271 → I' c = I c) ∧ ∃ v5', ∀ K, (WP mX10_unword 33 [.ref 270, .int x, .int (nI V.length), .int (nI W.length), .int (nI k), v5] [] w (I, Q, J) K ↔ WP mX10_unword 135 [.ref 270, .int x, .int (nI (V ++ remF (97 + x) W n k).length), .int (nI W.length), .int (nI W.length), v5'] [] w (I', Q, J) K) := by
  obtain ⟨o, ⟨q0, -⟩, w1, -⟩ := id ok
  have h4 := hW.1
  intro n
  induction n with
  | zero =>
    intro k V I v5 hk hVk hV hWr
    simp only [remF, List.append_nil]
    refine ⟨I, fun j hj => (hV j hj).2, fun _ _ => rfl, fun _ _ => rfl, v5, fun K => ?_⟩
    rw [rX10_unword_33]
    simp only [rX10_unword_35, rX10_unword_36]
    rw [if_pos (nI_le (by omega) (by omega)), show k = W.length by omega]
  | succ n ih =>
    intro k V I v5 hk hVk hV hWr
    have hkl : k < W.length := by omega
    have wk := hWr k (Nat.le_refl _) hkl
    have hk5 := hW.2 k hkl
    have hfirst : I 271 (317 + 5 * k) = (W.getD k []).getD 0 0 := wk.2 0 (by omega)
    have hd : ∀ {K : Option Value → WS → HS → Prop}, WP mX10_unword 33 [.ref 270, .int x, .int (nI V.length), .int (nI W.length), .int (nI k), v5] [] w (I, Q, J) K ↔ if (W.getD k []).getD 0 0 = 97 + x then WP mX10_unword 129 [.ref 270, .int x, .int (nI V.length), .int (nI W.length), .int (nI k), v5] [] w (I, Q, J) K else WP mX10_unword 59 [.ref 270, .int x, .int (nI V.length), .int (nI W.length), .int (nI k), v5] [] w (I, Q, J) K := by
      intro K
      rw [rX10_unword_33]
      simp only [rX10_unword_35, rX10_unword_36, rX10_unword_39, rX10_unword_40, rX10_unword_43, rX10_unword_46, rX10_unword_47, rX10_unword_49, rX10_unword_50, rX10_unword_51, rX10_unword_52, rX10_unword_54, rX10_unword_55, rX10_unword_56, o, q0, w1, rf_some, true_and, ixX, vin_nI (show 317 + 5 * k < 373 by omega) (by decide), nI_clamp (show 317 + 5 * k < 2 ^ 31 by omega), hfirst]
      rw [if_neg (nI_ge hkl (by omega))]
    by_cases q : (W.getD k []).getD 0 0 = 97 + x
    · have er : remF (97 + x) W (n + 1) k = remF (97 + x) W n (k + 1) := by simp only [remF]; rw [if_pos q]; rfl
      rw [er]
      obtain ⟨I', f1, f2, f3, v5', f4⟩ := ih (k + 1) V I v5 (by omega) (by omega) hV (fun j h1 h2 => hWr j (by omega) h2)
      refine ⟨I', f1, f2, f3, v5', fun K => ?_⟩
      rw [hd, if_pos q, ← f4 K]
      simp only [rX10_unword_129, rX10_unword_132, nI_1]
    · have er : remF (97 + x) W (n + 1) k = W.getD k [] :: remF (97 + x) W n (k + 1) := by simp only [remF]; rw [if_neg q]; rfl
      rw [er, show V ++ W.getD k [] :: remF (97 + x) W n (k + 1) = (V ++ [W.getD k []]) ++ remF (97 + x) W n (k + 1) by simp]
      obtain ⟨I1, e1, e2, e3, e4⟩ := M_un_in (J := J) (a := V.length) (b := k) (x1 := x) (x3 := nI W.length) ok hVk (by omega) 5 0 (u2 I 271 (313 + V.length) (nI (W.getD k []).length)) rfl
      have ez : ∀ z, z ≠ 313 + V.length → z < 317 + 5 * V.length ∨ 317 + 5 * V.length + 5 ≤ z → I1 271 z = I 271 z := fun z z1 z2 => by rw [e2 z (by omega), u2_ne (Or.inr z1)]
      have hlen : (V ++ [W.getD k []]).length = V.length + 1 := by simp
      obtain ⟨I', f1, f2, f3, v5', f4⟩ := ih (k + 1) (V ++ [W.getD k []]) I1 (.int (nI 5)) (by omega) (by omega) (fun j hj => by
        by_cases qj : j < V.length
        · rw [show (V ++ [W.getD k []]).getD j [] = V.getD j [] by simp only [List.getD_eq_getElem?_getD, List.getElem?_append_left qj]]
          have := hV j qj
          exact ⟨this.1, by rw [ez _ (by omega) (by omega)]; exact this.2.1, fun i hi => by rw [ez _ (by omega) (by omega)]; exact this.2.2 i hi⟩
        · have hje : j = V.length := by omega
          subst hje
          rw [show (V ++ [W.getD k []]).getD V.length [] = W.getD k [] by simp [List.getD_eq_getElem?_getD]]
          exact ⟨hk5.2, by rw [e2 _ (by omega), u2_same], fun i hi => by rw [e1 i (Nat.zero_le _) (by omega), u2_ne (Or.inr (by omega))]; exact wk.2 i hi⟩) (fun j h1 h2 => by
        have := hWr j (by omega) h2
        have h5 := (hW.2 j h2).2
        exact ⟨by rw [ez _ (by omega) (by omega)]; exact this.1, fun i hi => by rw [ez _ (by omega) (by omega)]; exact this.2 i hi⟩)
      refine ⟨I', f1, fun z hz => by rw [f2 z hz, ez z (by omega) (by omega)], fun c hc => by rw [f3 c hc, e3 c hc, Fr_u2 c hc], v5', fun K => ?_⟩
      rw [hd, if_neg q, ← f4 K, hlen]
      simp only [rX10_unword_59, rX10_unword_60, rX10_unword_63, rX10_unword_66, rX10_unword_67, rX10_unword_68, rX10_unword_69, rX10_unword_72, rX10_unword_75, rX10_unword_77, rX10_unword_78, rX10_unword_79, rX10_unword_80, rX10_unword_81, o, q0, w1, rf_some, true_and, ixV, vin_nI (show 313 + V.length < 373 by omega) (by decide), nI_clamp (show 313 + V.length < 2 ^ 31 by omega), vin_nI (show 313 + k < 373 by omega) (by decide), nI_clamp (show 313 + k < 2 ^ 31 by omega), ne_eq, show ¬ (271 : Nat) = 0 by decide, not_false_eq_true, wk.1]
      rw [show (0 : Int32) = nI 0 from rfl, e4]
      simp only [rX10_unword_126, rX10_unword_129, rX10_unword_132, nI_1]
theorem N_unword {x : Int32} (ms : MS w I Q S) (hv : SV S) : MA w I Q J mX10_unword [.ref 270, .int x, .null, .null, .null, .null] (.int (sp_unword x S).1) (sp_unword x S).2 := by
  obtain ⟨ok, c2, c3, c4, c5, c6, c7⟩ := id ms
  obtain ⟨o, ⟨q0, q1, q3, q4, q7, q8, q9, q10, q11⟩, w1, -⟩ := id ok
  have h10 := hv.2.1.1.1
  have hW4 := hv.2.1.2.1.1
  have v0 : vin 0 373 := vin_nI (n := 0) (by decide) (by decide)
  have v1 : vin 1 373 := vin_nI (n := 1) (by decide) (by decide)
  unfold sp_unword
  by_cases hx : inR x 26
  · rw [if_neg (fun z => z hx)]
    obtain ⟨I1, a1, a2, a3, a4, a5⟩ := M_remembers (J := J) ms hv
    have e271 : I1 271 = I 271 := a2 271 (by decide) (by decide) (by decide) (by decide)
    have hle := remF_len (97 + x) S.2.1.2.1 S.2.1.2.1.length 0
    obtain ⟨I2, b1, b2, b3, v5, b4⟩ := M_un_loop (J := J) (x := x) ok hv.2.1.2.1 S.2.1.2.1.length 0 [] I1 .null rfl (Nat.le_refl _) (fun j hj => by simp at hj) (fun j _ h2 => by rw [e271]; exact c2.2.2.1 j h2)
    simp only [List.nil_append] at b1 b4
    have h11 : I1 271 1 = nI S.2.1.2.1.length := by rw [e271]; exact c2.1.2.1
    have h02 : ∀ y, u2 I2 271 1 y 271 0 = nI S.2.1.1.length := fun y => by rw [u2_ne (Or.inr (by decide)), b2 0 (by omega), e271]; exact c2.1.1
    obtain ⟨I3, g1, g2, g3, g4⟩ := N_rewords (J := J) (W' := remF (97 + x) S.2.1.2.1 S.2.1.2.1.length 0) (I2 := u2 I2 271 1 (nI (remF (97 + x) S.2.1.2.1 S.2.1.2.1.length 0).length)) ms hv a1 a2 a3 a4 (wdV_rem hv.2.1.2.1) (fun z z1 z2 => by rw [u2_ne (Or.inr z1), b2 z z2]) u2_same (fun k hk => by
      have := b1 k hk
      exact ⟨by rw [u2_ne (Or.inr (by omega))]; exact this.1, fun i hi => by rw [u2_ne (Or.inr (by omega))]; exact this.2 i hi⟩) (fun c hc => by rw [Fr_u2 c hc, b3 c hc])
    refine ⟨I3, g1, g2, fun K => ?_⟩
    simp only [rX10_unword_0, rX10_unword_1, rX10_unword_2, rX10_unword_4, rX10_unword_7, rX10_unword_10, rX10_unword_11, rX10_unword_13, rX10_unword_16, rX10_unword_17, rX10_unword_18, M_in, tl_some, ifn10, rg25, o, true_and]
    rw [if_pos hx, a5]
    simp only [tl_none, rX10_unword_21, rX10_unword_22, rX10_unword_23, rX10_unword_24, rX10_unword_27, rX10_unword_28, rX10_unword_29, rX10_unword_30, rX10_unword_31, o, q0, w1, rf_some, true_and, v1, cl1, h11]
    rw [show (0 : Int32) = nI 0 from rfl]
    have b4' := b4
    simp only [List.length_nil] at b4'
    rw [b4']
    simp only [rX10_unword_135, rX10_unword_136, rX10_unword_139, rX10_unword_140, rX10_unword_141, rX10_unword_142, rX10_unword_143, rX10_unword_144, rX10_unword_145, rX10_unword_148, rX10_unword_149, rX10_unword_150, o, q0, w1, rf_some, true_and, v0, v1, cl0, cl1, h02, ne_eq, show ¬ (271 : Nat) = 0 by decide, not_false_eq_true]
    rw [show (0 : Int32) = nI 0 from rfl, g4]
    simp only [tl_none, rX10_unword_153, rX10_unword_154, rX10_unword_155, rX10_unword_156, pk_sub hle]
  · rw [if_pos hx]
    refine MA.bad ms (fun K => ?_)
    simp only [rX10_unword_0, rX10_unword_1, rX10_unword_2, rX10_unword_4, rX10_unword_7, rX10_unword_10, rX10_unword_11, rX10_unword_13, rX10_unword_16, M_in, tl_some, ifn10, rg25, o, true_and, mrB ok]
    rw [if_neg hx]
theorem N_rule {c m s : Int32} (ms : MS w I Q S) (hv : SV S) : MA w I Q J mX10_rule [.ref 270, .int c, .int m, .int s, .null] (.int (sp_rule c m s S).1) (sp_rule c m s S).2 := by
  obtain ⟨ok, c2, c3, c4, c5, c6, c7⟩ := id ms
  obtain ⟨o, ⟨q0, q1, q3, q4, q7, q8, q9, q10, q11⟩, w1, -⟩ := id ok
  have h10 := hv.2.1.1.1
  have hW4 := hv.2.1.2.1.1
  have hR := hv.2.1.2.2
  have v2 : vin 2 373 := vin_nI (n := 2) (by decide) (by decide)
  have cl2 : (2 : Int32).toNatClampNeg = 2 := by decide
  have hd : ∀ {K : Option Value → WS → HS → Prop}, WP mX10_rule 0 [.ref 270, .int c, .int m, .int s, .null] [] w (I, Q, J) K ↔ if (-1 ≤ c ∧ c ≤ 7) ∧ (-1 ≤ m ∧ m ≤ 2) ∧ (0 ≤ s ∧ s ≤ 99) then WP mX10_rule 36 [.ref 270, .int c, .int m, .int s, .null] [] w (I, Q, J) K else WP mX10_rule 29 [.ref 270, .int c, .int m, .int s, .null] [] w (I, Q, J) K := by
    intro K
    simp only [rX10_rule_0, rX10_rule_1, rX10_rule_2, rX10_rule_4, rX10_rule_7, rX10_rule_10, rX10_rule_11, rX10_rule_12, rX10_rule_13, rX10_rule_16, rX10_rule_19, rX10_rule_20, rX10_rule_21, rX10_rule_23, rX10_rule_26, M_in, tl_some, if10, ifn10]
    by_cases h1 : -1 ≤ c ∧ c ≤ 7
    · rw [if_pos h1]
      by_cases h2 : -1 ≤ m ∧ m ≤ 2
      · rw [if_pos h2]
        by_cases h3 : 0 ≤ s ∧ s ≤ 99
        · rw [if_pos h3, if_pos ⟨h1, h2, h3⟩]
        · rw [if_neg h3, if_neg (fun z => h3 z.2.2)]
      · rw [if_neg h2, if_neg (fun z => h2 z.2.1)]
    · rw [if_neg h1, if_neg (fun z => h1 z.1)]
  unfold sp_rule
  by_cases hq : (-1 ≤ c ∧ c ≤ 7) ∧ (-1 ≤ m ∧ m ≤ 2) ∧ (0 ≤ s ∧ s ≤ 99)
  · rw [if_neg (fun z => z hq)]
    by_cases hf : S.2.1.2.2.length = 12
    · rw [if_pos hf]
      refine MA.full ms (fun K => ?_)
      rw [hd, if_pos hq]
      simp only [rX10_rule_36, rX10_rule_37, rX10_rule_40, rX10_rule_41, rX10_rule_42, rX10_rule_44, rX10_rule_47, rX10_rule_48, rX10_rule_50, rX10_rule_53, o, q0, w1, rf_some, true_and, v2, cl2, c2.1.2.2, mrF ok, tl_some]
      rw [if_neg (show ¬ ¬ nI S.2.1.2.2.length = 12 from fun z => z (by rw [hf]; rfl))]
    · rw [if_neg hf]
      obtain ⟨I1, a1, a2, a3, a4, a5⟩ := M_remembers (J := J) ms hv
      have e271 : I1 271 = I 271 := a2 271 (by decide) (by decide) (by decide) (by decide)
      generalize hn : S.2.1.2.2.length = n at *
      have hlen : (S.2.1.2.2 ++ [(c, m, s)]).length = n + 1 := by simp [hn]
      have h12 : I1 271 2 = nI n := by rw [e271, ← hn]; exact c2.1.2.2
      have h22 : ∀ y1 y2 y3, u2 (u2 (u2 I1 271 (337 + 3 * n) y1) 271 (337 + 3 * n + 1) y2) 271 (337 + 3 * n + 2) y3 271 2 = nI n := fun y1 y2 y3 => by rw [u2_ne (Or.inr (by omega)), u2_ne (Or.inr (by omega)), u2_ne (Or.inr (by omega))]; exact h12
      have ez : ∀ z, z ≠ 2 → z < 337 + 3 * n ∨ 337 + 3 * n + 3 ≤ z → u2 (u2 (u2 (u2 I1 271 (337 + 3 * n) c) 271 (337 + 3 * n + 1) m) 271 (337 + 3 * n + 2) s) 271 2 (nI (n + 1)) 271 z = I 271 z := fun z z1 z2 => by rw [u2_ne (Or.inr z1), u2_ne (Or.inr (by omega)), u2_ne (Or.inr (by omega)), u2_ne (Or.inr (by omega)), e271]
      have eo : ∀ z, z ≠ 271 → u2 (u2 (u2 (u2 I1 271 (337 + 3 * n) c) 271 (337 + 3 * n + 1) m) 271 (337 + 3 * n + 2) s) 271 2 (nI (n + 1)) z = I1 z := fun z hz => by rw [Fr_u2 z hz, Fr_u2 z hz, Fr_u2 z hz, Fr_u2 z hz]
      refine ⟨u2 (u2 (u2 (u2 I1 271 (337 + 3 * n) c) 271 (337 + 3 * n + 1) m) 271 (337 + 3 * n + 2) s) 271 2 (nI (n + 1)), ⟨ok, ?_, ⟨by rw [eo 270 (by decide)]; exact a1.1, by rw [eo 272 (by decide)]; exact a1.2⟩, ?_, ⟨?_, ?_⟩, ?_, fun k hk => (c7 k hk).fr ?_ ?_ ?_⟩, fun z hz => ?_, fun K => ?_⟩
      · obtain ⟨⟨p1, p2, p3⟩, p4, p5, p6⟩ := id c2
        refine ⟨⟨by rw [ez 0 (by omega) (by omega)]; exact p1, by rw [ez 1 (by omega) (by omega)]; exact p2, by rw [u2_same]; exact congrArg nI hlen.symm⟩, fun k hk => ⟨?_, fun i hi => ?_⟩, fun k hk => ⟨?_, fun i hi => ?_⟩, fun k hk => ?_⟩
        · have hk' : k < S.2.1.1.length := hk
          rw [ez _ (by omega) (by omega)]; exact (p4 k hk).1
        · have hk' : k < S.2.1.1.length := hk
          have h30 := hv.2.1.1.2 k hk'
          have hi' : i < (S.2.1.1.getD k []).length := hi
          rw [ez _ (by omega) (by omega)]; exact (p4 k hk).2 i hi
        · have hk' : k < S.2.1.2.1.length := hk
          rw [ez _ (by omega) (by omega)]; exact (p5 k hk).1
        · have hk' : k < S.2.1.2.1.length := hk
          have h5 := (hv.2.1.2.1.2 k hk').2
          have hi' : i < (S.2.1.2.1.getD k []).length := hi
          rw [ez _ (by omega) (by omega)]; exact (p5 k hk).2 i hi
        · have hk' : k < n + 1 := by rw [← hlen]; exact hk
          show ruM _ k ((S.2.1.2.2 ++ [(c, m, s)]).getD k (0, 0, 0))
          by_cases q : k < n
          · rw [show (S.2.1.2.2 ++ [(c, m, s)]).getD k (0, 0, 0) = S.2.1.2.2.getD k (0, 0, 0) by simp only [List.getD_eq_getElem?_getD, List.getElem?_append_left (show k < S.2.1.2.2.length by omega)]]
            have := p6 k (by omega)
            exact ⟨by rw [ez _ (by omega) (by omega)]; exact this.1, by rw [ez _ (by omega) (by omega)]; exact this.2.1, by rw [ez _ (by omega) (by omega)]; exact this.2.2⟩
          · have hke : k = n := by omega
            subst hke
            rw [show (S.2.1.2.2 ++ [(c, m, s)]).getD k (0, 0, 0) = (c, m, s) by rw [← hn]; simp [List.getD_eq_getElem?_getD]]
            exact ⟨by rw [u2_ne (Or.inr (by omega)), u2_ne (Or.inr (by omega)), u2_ne (Or.inr (by omega)), u2_same], by rw [u2_ne (Or.inr (by omega)), u2_ne (Or.inr (by omega)), u2_same], by rw [u2_ne (Or.inr (by omega)), u2_same]⟩
      · rw [eo 273 (by decide), a2 273 (by decide) (by decide) (by decide) (by decide)]; exact c4
      · rw [eo 270 (by decide), a3 5 (by decide)]; exact c5.1
      · rw [eo 274 (by decide), a2 274 (by decide) (by decide) (by decide) (by decide)]; exact c5.2
      · rw [eo 270 (by decide), a3 6 (by decide)]; exact c6
      · rw [eo 275 (by decide), a2 275 (by decide) (by decide) (by decide) (by decide)]
      · rw [eo 276 (by decide), a2 276 (by decide) (by decide) (by decide) (by decide)]
      · rw [eo 277 (by decide), a2 277 (by decide) (by decide) (by decide) (by decide)]
      · rw [eo z (by omega), a2 z (by omega) (by omega) (by omega) (by omega)]
      · rw [hd, if_pos hq]
        have h02 : I 271 2 = nI n := by rw [← hn]; exact c2.1.2.2
        simp only [rX10_rule_36, rX10_rule_37, rX10_rule_40, rX10_rule_41, rX10_rule_42, rX10_rule_44, rX10_rule_47, rX10_rule_48, rX10_rule_50, rX10_rule_53, rX10_rule_54, rX10_rule_55, o, q0, w1, rf_some, true_and, v2, cl2, h02]
        rw [if_pos (show ¬ nI n = 12 from fun z => hf (nI_inj (b := 12) (by omega) (by decide) z)), a5]
        simp only [tl_none, rX10_rule_58, rX10_rule_61, rX10_rule_62, rX10_rule_63, rX10_rule_66, rX10_rule_67, rX10_rule_68, rX10_rule_69, rX10_rule_70, rX10_rule_72, rX10_rule_73, rX10_rule_76, rX10_rule_78, rX10_rule_79, rX10_rule_80, rX10_rule_81, rX10_rule_84, rX10_rule_86, rX10_rule_87, rX10_rule_88, rX10_rule_89, rX10_rule_90, rX10_rule_91, rX10_rule_94, rX10_rule_96, rX10_rule_97, rX10_rule_98, rX10_rule_99, rX10_rule_100, rX10_rule_101, rX10_rule_104, rX10_rule_105, rX10_rule_106, rX10_rule_107, rX10_rule_108, rX10_rule_109, rX10_rule_110, rX10_rule_111, rX10_rule_114, rX10_rule_115, rX10_rule_116, rX10_rule_117, rX10_rule_118, o, q0, w1, rf_some, true_and, v2, cl2, h12, h22, ixR, nI_1, u2_same, show nI (337 + 3 * n) + 2 = nI (337 + 3 * n + 2) from nI_add _ 2, vin_nI (show 337 + 3 * n < 373 by omega) (by decide), nI_clamp (show 337 + 3 * n < 2 ^ 31 by omega), vin_nI (show 337 + 3 * n + 1 < 373 by omega) (by decide), nI_clamp (show 337 + 3 * n + 1 < 2 ^ 31 by omega), vin_nI (show 337 + 3 * n + 2 < 373 by omega) (by decide), nI_clamp (show 337 + 3 * n + 2 < 2 ^ 31 by omega), ne_eq, show ¬ (271 : Nat) = 0 by decide, not_false_eq_true, show nI (n + 1) - 1 = nI n from (pk_sub (show 1 ≤ n + 1 by omega)).trans rfl]
  · rw [if_pos hq]
    refine MA.bad ms (fun K => ?_)
    rw [hd, if_neg hq]
    simp only [rX10_rule_29, rX10_rule_30, rX10_rule_32, rX10_rule_35, o, true_and, mrB ok, tl_some]
theorem M_back_loop {s : Nat} (ok : mOK w Q) (hs : s < 5) : ∀ n k (I : Nat → Nat → Int32), n + k = 373 → I 270 2 = nI s → ∃ I', (∀ j, k ≤ j → j < 373 → I' 271 j = I 272 (373 * s + j)) ∧ (∀ j, j < k → I' 271 j = I 271 j) ∧ (∀ c, c ≠ 271 → I' c = I c) ∧ ∀ K, (WP mX10_back 26 [.ref 270, .int (nI k)] [] w (I, Q, J) K ↔ WP mX10_back 60 [.ref 270, .int (nI 373)] [] w (I', Q, J) K) := by
  obtain ⟨o, ⟨q0, q1, q3, q4, q7, q8, q9, q10, q11⟩, w1, w2, -⟩ := id ok
  intro n
  induction n with
  | zero =>
    intro k I hk hI
    have : k = 373 := by omega
    subst this
    refine ⟨I, fun j h1 h2 => by omega, fun _ _ => rfl, fun _ _ => rfl, fun K => ?_⟩
    rw [rX10_back_26]
    simp only [rX10_back_27, rX10_back_30]
    rw [if_pos (by decide)]
  | succ n ih =>
    intro k I hk hI
    obtain ⟨I', f1, f2, f3, f4⟩ := ih (k + 1) (u2 I 271 k (I 272 (373 * s + k))) (by omega) (by rw [Fr_u2 270 (by decide)]; exact hI)
    refine ⟨I', fun j h1 h2 => ?_, fun j h => ?_, fun c hc => (f3 c hc).trans (Fr_u2 c hc), fun K => ?_⟩
    · by_cases e : j = k
      · subst e; rw [f2 _ (by omega), u2_same]
      · rw [f1 j (by omega) h2, Fr_u2 272 (by decide)]
    · rw [f2 j (by omega), u2_ne (Or.inr (by omega))]
    · rw [← f4 K, rX10_back_26]
      simp only [rX10_back_27, rX10_back_30, rX10_back_33, rX10_back_34, rX10_back_37, rX10_back_38, rX10_back_39, rX10_back_42, rX10_back_45, rX10_back_46, rX10_back_49, rX10_back_50, rX10_back_51, rX10_back_52, rX10_back_53, rX10_back_54, rX10_back_57, o, q0, q1, w1, w2, rf_some, true_and, hI, ixP, vin_nI (show k < 373 by omega) (by decide), vin_nI (show 373 * s + k < 1865 by omega) (by decide), nI_clamp (show k < 2 ^ 31 by omega), nI_clamp (show 373 * s + k < 2 ^ 31 by omega), ne_eq, show ¬ (271 : Nat) = 0 by decide, not_false_eq_true, nI_1]
      rw [if_neg (show ¬ (373 : Int32) ≤ nI k from nI_ge (show k < 373 by omega) (by decide))]
theorem N_back (ms : MS w I Q S) (hv : SV S) : MA w I Q J mX10_back [.ref 270, .null] (.int (sp_back S).1) (sp_back S).2 := by
  obtain ⟨ok, c2, c3, c4, c5, c6, c7⟩ := id ms
  have o := ok.1
  obtain ⟨T, Z0, H0, an, f⟩ := S
  cases H0 with
  | nil =>
    refine MA.no ms (fun K => ?_)
    have e0 : I 270 2 = 0 := c3.1
    simp only [rX10_back_0, rX10_back_1, rX10_back_4, rX10_back_7, rX10_back_8, rX10_back_10, rX10_back_13, o, e0, true_and, mrN ok, tl_some, not_true_eq_false, if_false]
  | cons Z H =>
    have hH : hsV (Z :: H) := hv.2.2.1
    have hzv : zV Z := hH.2 0 (by simp)
    have hHl : H.length ≤ 4 := by have := hH.1; simp at this; omega
    have hH2 : hsV H := ⟨by omega, fun d hd => hH.2 (d + 1) (by simp; omega)⟩
    have e0 : I 270 2 = nI (H.length + 1) := c3.1
    obtain ⟨I1, b1, b2, b3, b4⟩ := M_back_loop (J := J) (s := H.length) ok (by omega) 373 0 (u2 I 270 2 (nI H.length)) rfl u2_same
    have hnow : nowIs (I1 271) Z := by
      have := c3.2 0 (by simp)
      refine nowIs.ext this hzv (fun i hi => ?_)
      rw [b1 i (Nat.zero_le _) hi, Fr_u2 272 (by decide)]
      show I 272 (373 * H.length + i) = I 272 (373 * ((Z :: H).length - 1 - 0) + i)
      simp
    obtain ⟨ls, W, R⟩ := Z
    obtain ⟨I2, d1, d2, d3⟩ := M_paints (J := J) ok hzv hnow
    have e1 : ∀ c, c ≠ 270 → c ≠ 271 → I1 c = I c := fun c z1 z2 => by rw [b3 c z2, Fr_u2 c z1]
    have e2 : ∀ c, c ≠ 270 → c ≠ 271 → c ≠ 275 → c ≠ 276 → c ≠ 277 → u2 I2 270 6 0 c = I c := fun c z1 z2 z3 z4 z5 => by rw [Fr_u2 c z1, d2.1 c z1 z3 z4 z5, e1 c z1 z2]
    have ef : ∀ g, g < 12 → g ≠ 6 → g ≠ 2 → u2 I2 270 6 0 270 g = I 270 g := fun g z1 z2 z3 => by rw [u2_ne (Or.inr z2), d2.2 g (by omega), b3 270 (by decide), u2_ne (Or.inr z3)]
    have ef2 : u2 I2 270 6 0 270 2 = nI H.length := by rw [u2_ne (Or.inr (by decide)), d2.2 2 (by omega), b3 270 (by decide), u2_same]
    refine ⟨u2 I2 270 6 0, ⟨ok, ?_, ⟨ef2, fun d hd => ?_⟩, ?_, ⟨?_, ?_⟩, u2_same, fun k hk => (d1 k hk).fr (Fr_u2 275 (by decide)) (Fr_u2 276 (by decide)) (Fr_u2 277 (by decide))⟩, fun z hz => e2 z (by omega) (by omega) (by omega) (by omega) (by omega), fun K => ?_⟩
    · rw [Fr_u2 271 (by decide), d2.1 271 (by decide) (by decide) (by decide) (by decide)]; exact hnow
    · have hd' : d < H.length := hd
      have := c3.2 (d + 1) (by simp; omega)
      refine nowIs.ext this (hH2.2 d hd') (fun i hi => ?_)
      rw [e2 272 (by decide) (by decide) (by decide) (by decide) (by decide)]
      show I 272 (373 * (H.length - 1 - d) + i) = I 272 (373 * (((ls, W, R) :: H).length - 1 - (d + 1)) + i)
      congr 2
      simp; omega
    · rw [e2 273 (by decide) (by decide) (by decide) (by decide) (by decide)]; exact c4
    · rw [ef 5 (by decide) (by decide) (by decide)]; exact c5.1
    · rw [e2 274 (by decide) (by decide) (by decide) (by decide) (by decide)]; exact c5.2
    · simp only [rX10_back_0, rX10_back_1, rX10_back_4, rX10_back_7, rX10_back_8, rX10_back_10, rX10_back_13, rX10_back_14, rX10_back_15, rX10_back_16, rX10_back_19, rX10_back_20, rX10_back_21, rX10_back_24, rX10_back_25, o, e0, true_and, show nI (H.length + 1) - 1 = nI H.length from (pk_sub (show 1 ≤ H.length + 1 by omega)).trans rfl]
      rw [if_pos (show ¬ nI (H.length + 1) = 0 from fun z => by have := nI_inj (b := 0) (by omega) (by decide) z; omega), show (0 : Int32) = nI 0 from rfl, b4]
      simp only [rX10_back_60, rX10_back_61, o, true_and]
      rw [d3]
      have ef2' : u2 I2 270 6 0 270 2 = nI H.length := ef2
      simp only [tl_none, rX10_back_64, rX10_back_65, rX10_back_66, rX10_back_69, rX10_back_70, rX10_back_73, o, true_and, ef2']
      rfl
end MG
