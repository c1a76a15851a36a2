section MD
variable {w : WS} {I : Nat → Nat → Int32} {Q : Nat → Nat → Option Nat} {J : Nat → Nat → Int64} {K : Option Value → WS → HS → Prop} {S : SP}
theorem ixA (k : Nat) : (13 : Int32) + 30 * nI k = nI (13 + 30 * k) := by rw [show (13 : Int32) = nI 13 from rfl, show (30 : Int32) = nI 30 from rfl, nI_mul, nI_add]
theorem erb_getD {l : List Int32} {k j : Nat} : (l.eraseIdx k).getD j 0 = if j < k then l.getD j 0 else l.getD (j + 1) 0 := by
  simp only [List.getD_eq_getElem?_getD, List.getElem?_eraseIdx]
  split <;> rfl
/-- one line's bytes become others -/
theorem N_setLine {kk : Nat} {l : List Int32} {I1 I2 : Nat → Nat → Int32} (ms : MS w I Q S) (hv : SV S) (hkk : kk < S.2.1.1.length) (hl : l.length ≤ 30) (a1 : pastIs I1 ((S.2.1 :: S.2.2.1).take 5)) (a2 : ∀ c, c ≠ 270 → c ≠ 272 → c ≠ 278 → c ≠ 279 → I1 c = I c) (a3 : ∀ f, f ≠ 2 → I1 270 f = I 270 f) (a4 : ∀ j, j < 10 → I1 278 j = I 277 j ∧ I1 279 j = nI j) (b1 : lnM (I2 271) kk l) (b2 : FrN kk (I1 271) (I2 271)) (b3 : ∀ c, c ≠ 271 → I2 c = I1 c) : ∃ I3, MS w I3 Q (setS kk l S) ∧ Fr (fun c => 270 ≤ c ∧ c < 280) I I3 ∧ I3 271 = I2 271 ∧ ∀ K, (WP mX10_changes 0 [.ref 270, .int (nI kk), .int (nI kk), .null, .null] [] w (I2, Q, J) K ↔ K none w (I3, Q, J)) := by
  obtain ⟨ok, c2, c3, c4, c5, c6, c7⟩ := id ms
  have h10 := hv.2.1.1.1
  have e271 : I1 271 = I 271 := a2 271 (by decide) (by decide) (by decide) (by decide)
  have hnow : nowIs (I2 271) (S.2.1.1.set kk l, S.2.1.2) := by
    refine nowIs.ls (ls := S.2.1.1) (N := I 271) c2 (fun z hz => ?_) ?_ (fun j hj => ?_)
    · rw [b2 z (by omega) (by omega), e271]
    · rw [b2 0 (by omega) (by omega), e271, List.length_set]; exact c2.1.1
    · rw [List.length_set] at hj
      rw [lset_getD]
      by_cases e : kk = j
      · rw [if_pos ⟨e, hkk⟩, ← e]; exact b1
      · rw [if_neg (fun z => e z.1)]
        have := b2.ln (k := j) (by omega) (by omega) (fun z => e z.symm)
        rw [e271] at this
        exact this.ln (c2.2.1 j hj) (hv.2.1.1.2 j hj)
  have hwas : ∀ j, j < S.2.1.1.length → wasM I2 (fun _ => false) (fun j => stAt S.2.1.2.1 S.2.1.1 (j + 1)) j := fun j hj => by
    unfold wasM
    rw [if_neg (by simp)]
    exact ⟨j, by omega, by rw [b3 279 (by decide)]; exact (a4 j (by omega)).2, by rw [b3 278 (by decide), (a4 j (by omega)).1, (c7 j hj).2]⟩
  exact N_ch (J := J) (Z := (S.2.1.1.set kk l, S.2.1.2)) (first := kk) (last := kk) (nw := fun _ => false) (E := fun j => stAt S.2.1.2.1 S.2.1.1 (j + 1)) ms a1 a2 a3 (I2 := I2) (fun c z1 z2 => b3 c z1) ⟨lsV_set hv.2.1.1 hl, hv.2.1.2⟩ hnow (by omega) (by show kk ≤ (S.2.1.1.set kk l).length; rw [List.length_set]; omega) (fun j => stAt_ok _ _ _) (fun j h1 h2 => hwas j (by have h2 : j < (S.2.1.1.set kk l).length := h2; rw [List.length_set] at h2; exact h2)) rfl
theorem M_put_loop {k i : Nat} {x : Int32} (ok : mOK w Q) (hk : k < 10) : ∀ d (I : Nat → Nat → Int32), d + i < 30 → ∃ I', (∀ j, i < j → j ≤ d + i → I' 271 (13 + 30 * k + j) = I 271 (13 + 30 * k + (j - 1))) ∧ (∀ z, z ≤ 13 + 30 * k + i ∨ 13 + 30 * k + (d + i) < z → I' 271 z = I 271 z) ∧ (∀ c, c ≠ 271 → I' c = I c) ∧ ∀ K, (WP mX10_puts 85 [.ref 270, .int (nI k), .int (nI i), .int x, .int (nI (13 + 30 * k)), .int (nI (d + i))] [] w (I, Q, J) K ↔ WP mX10_puts 119 [.ref 270, .int (nI k), .int (nI i), .int x, .int (nI (13 + 30 * k)), .int (nI i)] [] w (I', Q, J) K) := by
  obtain ⟨o, ⟨q0, q1, q3, q4, q7, q8, q9, q10, q11⟩, w1, -⟩ := id ok
  intro d
  induction d with
  | zero =>
    intro I hd
    refine ⟨I, fun j h1 h2 => by omega, fun _ _ => rfl, fun _ _ => rfl, fun K => ?_⟩
    rw [rX10_puts_85]
    simp only [rX10_puts_87, rX10_puts_88]
    rw [Nat.zero_add, if_pos (nI_le (Nat.le_refl _) (by omega))]
  | succ d ih =>
    intro I hd
    obtain ⟨I', f1, f2, f3, f4⟩ := ih (u2 I 271 (13 + 30 * k + (d + 1 + i)) (I 271 (13 + 30 * k + (d + i)))) (by omega)
    refine ⟨I', fun j h1 h2 => ?_, fun z hz => ?_, fun c hc => (f3 c hc).trans (Fr_u2 c hc), fun K => ?_⟩
    · by_cases e : j = d + 1 + i
      · subst e; rw [f2 _ (Or.inr (by omega)), u2_same, show d + 1 + i - 1 = d + i by omega]
      · rw [f1 j h1 (by omega), u2_ne (Or.inr (by omega))]
    · rw [f2 z (by omega), u2_ne (Or.inr (by omega))]
    · rw [← f4 K, rX10_puts_85]
      simp only [rX10_puts_87, rX10_puts_88, rX10_puts_91, rX10_puts_92, rX10_puts_95, rX10_puts_97, rX10_puts_99, rX10_puts_100, rX10_puts_101, rX10_puts_104, rX10_puts_106, rX10_puts_108, rX10_puts_109, rX10_puts_110, rX10_puts_111, rX10_puts_112, rX10_puts_113, rX10_puts_116, o, q0, w1, rf_some, true_and, nI_add, show nI (13 + 30 * k + (d + 1 + i)) - 1 = nI (13 + 30 * k + (d + i)) from (pk_sub (show 1 ≤ 13 + 30 * k + (d + 1 + i) by omega)).trans (congrArg nI (show 13 + 30 * k + (d + 1 + i) - 1 = 13 + 30 * k + (d + i) by omega)), vin_nI (show 13 + 30 * k + (d + 1 + i) < 373 by omega) (by decide), nI_clamp (show 13 + 30 * k + (d + 1 + i) < 2 ^ 31 by omega), vin_nI (show 13 + 30 * k + (d + i) < 373 by omega) (by decide), nI_clamp (show 13 + 30 * k + (d + i) < 2 ^ 31 by omega), ne_eq, show ¬ (271 : Nat) = 0 by decide, not_false_eq_true, show nI (d + 1 + i) + -1 = nI (d + i) by rw [show d + 1 + i = d + i + 1 by omega]; exact pk_m1 _]
      rw [if_neg (nI_ge (show i < d + 1 + i by omega) (by omega))]
theorem N_puts {k i c : Int32} (ms : MS w I Q S) (hv : SV S) : MA w I Q J mX10_puts [.ref 270, .int k, .int i, .int c, .null, .null] (.int (sp_puts k i c S).1) (sp_puts k i c S).2 := by
  obtain ⟨ok, c2, c3, c4, c5, c6, c7⟩ := id ms
  obtain ⟨o, ⟨q0, q1, q3, q4, q7, q8, q9, q10, q11⟩, w1, -⟩ := id ok
  have h10 := hv.2.1.1.1
  have hd : ∀ {K : Option Value → WS → HS → Prop}, WP mX10_puts 0 [.ref 270, .int k, .int i, .int c, .null, .null] [] w (I, Q, J) K ↔ if inR k S.2.1.1.length ∧ inR i ((S.2.1.1.getD k.toNatClampNeg []).length + 1) ∧ byI c then WP mX10_puts 42 [.ref 270, .int k, .int i, .int c, .null, .null] [] w (I, Q, J) K else WP mX10_puts 35 [.ref 270, .int k, .int i, .int c, .null, .null] [] w (I, Q, J) K := by
    intro K
    simp only [rX10_puts_0, rX10_puts_1, rX10_puts_2, o, true_and, M_isLine ok c2.1.1 (show S.2.1.1.length < 1000 by omega), tl_some]
    simp only [rX10_puts_5, if10]
    by_cases hk : inR k S.2.1.1.length
    · rw [if_pos hk]
      obtain ⟨kk, hkk, rfl⟩ := inR_of (by omega) hk
      rw [nI_clamp (show kk < 2 ^ 31 by omega)]
      have h30 := hv.2.1.1.2 kk hkk
      simp only [rX10_puts_8, rX10_puts_9, rX10_puts_10, rX10_puts_11, rX10_puts_14, rX10_puts_15, rX10_puts_16, rX10_puts_17, rX10_puts_18, o, q0, w1, rf_some, true_and, ixL, vin_nI (show 3 + kk < 373 by omega) (by decide), nI_clamp (show 3 + kk < 2 ^ 31 by omega), (c2.2.1 kk hkk).1, M_in, tl_some, rgN (show (S.2.1.1.getD kk []).length < 1000 by omega)]
      simp only [rX10_puts_21, rX10_puts_24, rX10_puts_25, rX10_puts_27, rX10_puts_29, rX10_puts_32, if10, ifn10, M_in, tl_some]
      by_cases h1 : inR i ((S.2.1.1.getD kk []).length + 1)
      · rw [if_pos h1]
        by_cases h2 : byI c
        · rw [if_pos h2, if_pos ⟨hk, h1, h2⟩]
        · rw [if_neg h2, if_neg (fun z => h2 z.2.2)]
      · rw [if_neg h1, if_neg (fun z => h1 z.2.1)]
    · rw [if_neg hk, if_neg (fun z => hk z.1)]
  unfold sp_puts
  by_cases hh : inR k S.2.1.1.length ∧ inR i ((S.2.1.1.getD k.toNatClampNeg []).length + 1) ∧ byI c
  · rw [if_neg (fun z => z hh)]
    have hd2 : ∀ {K : Option Value → WS → HS → Prop}, WP mX10_puts 0 [.ref 270, .int k, .int i, .int c, .null, .null] [] w (I, Q, J) K ↔ WP mX10_puts 42 [.ref 270, .int k, .int i, .int c, .null, .null] [] w (I, Q, J) K := by intro K; rw [hd, if_pos hh]
    obtain ⟨h1, h2, h3⟩ := hh
    obtain ⟨kk, hkk, rfl⟩ := inR_of (by omega) h1
    rw [nI_clamp (show kk < 2 ^ 31 by omega)] at h2 ⊢
    have h30 := hv.2.1.1.2 kk hkk
    obtain ⟨ii, hii, rfl⟩ := inR_of (by omega) h2
    rw [nI_clamp (show ii < 2 ^ 31 by omega)]
    by_cases hf : 30 ≤ (S.2.1.1.getD kk []).length
    · rw [if_pos hf]
      refine MA.full ms (fun K => ?_)
      rw [hd2]
      simp only [rX10_puts_42, rX10_puts_43, rX10_puts_46, rX10_puts_47, rX10_puts_48, rX10_puts_49, rX10_puts_50, rX10_puts_52, rX10_puts_55, rX10_puts_56, rX10_puts_58, rX10_puts_61, o, q0, w1, rf_some, true_and, ixL, vin_nI (show 3 + kk < 373 by omega) (by decide), nI_clamp (show 3 + kk < 2 ^ 31 by omega), (c2.2.1 kk hkk).1, mrF ok, tl_some]
      rw [if_neg (show ¬ ¬ nI (S.2.1.1.getD kk []).length = 30 from fun z => z (by rw [show (S.2.1.1.getD kk []).length = 30 by omega]; rfl))]
    · rw [if_neg hf]
      obtain ⟨I1, a1, a2, a3, a4, a5⟩ := M_remembers (J := J) ms hv
      have e271 : I1 271 = I 271 := a2 271 (by decide) (by decide) (by decide) (by decide)
      have r1 : lnM (I1 271) kk (S.2.1.1.getD kk []) := by rw [e271]; exact c2.2.1 kk hkk
      obtain ⟨I2, b1, b2, b3, b4⟩ := M_put_loop (J := J) (k := kk) (i := ii) (x := c) ok (by omega) ((S.2.1.1.getD kk []).length - ii) I1 (by omega)
      rw [show (S.2.1.1.getD kk []).length - ii + ii = (S.2.1.1.getD kk []).length by omega] at b1 b2 b4
      have e3k : I2 271 (3 + kk) = nI (S.2.1.1.getD kk []).length := by rw [b2 _ (by omega)]; exact r1.1
      have e3k' : ∀ y, u2 I2 271 (13 + 30 * kk + ii) y 271 (3 + kk) = nI (S.2.1.1.getD kk []).length := fun y => by rw [u2_ne (Or.inr (by omega))]; exact e3k
      obtain ⟨I4, g1, g2, g3, g4⟩ := N_setLine (J := J) (kk := kk) (l := (S.2.1.1.getD kk []).take ii ++ c :: (S.2.1.1.getD kk []).drop ii) (I2 := u2 (u2 I2 271 (13 + 30 * kk + ii) c) 271 (3 + kk) (nI ((S.2.1.1.getD kk []).length + 1))) ms hv hkk (by rw [tdl (by omega)]; omega) a1 a2 a3 a4 (by
        refine ⟨by rw [u2_same, tdl (by omega)], fun j hj => ?_⟩
        rw [tdl (by omega)] at hj
        rw [u2_ne (Or.inr (by omega)), ins_getD (by omega)]
        by_cases q1 : j < ii
        · rw [if_pos q1, u2_ne (Or.inr (by omega)), b2 _ (by omega), r1.2 j (by omega)]
        · rw [if_neg q1]
          by_cases q2 : j = ii
          · rw [if_pos q2, q2, u2_same]
          · rw [if_neg q2, u2_ne (Or.inr (by omega)), b1 j (by omega) (by omega), r1.2 (j - 1) (by omega)]) (fun z z1 z2 => by rw [u2_ne (Or.inr z1), u2_ne (Or.inr (by omega)), b2 z (by omega)]) (fun z hz => by rw [Fr_u2 z hz, Fr_u2 z hz, b3 z hz])
      have e0 : I4 271 (3 + kk) = nI ((S.2.1.1.getD kk []).length + 1) := by rw [g3, u2_same]
      refine ⟨I4, g1, g2, fun K => ?_⟩
      rw [hd2]
      simp only [rX10_puts_42, rX10_puts_43, rX10_puts_46, rX10_puts_47, rX10_puts_48, rX10_puts_49, rX10_puts_50, rX10_puts_52, rX10_puts_55, rX10_puts_56, rX10_puts_58, rX10_puts_61, rX10_puts_62, rX10_puts_63, o, q0, w1, rf_some, true_and, ixL, vin_nI (show 3 + kk < 373 by omega) (by decide), nI_clamp (show 3 + kk < 2 ^ 31 by omega), (c2.2.1 kk hkk).1]
      rw [if_pos (show ¬ nI (S.2.1.1.getD kk []).length = 30 from fun z => by have := nI_inj (b := 30) (by omega) (by decide) z; omega), a5]
      simp only [tl_none, rX10_puts_66, rX10_puts_68, rX10_puts_70, rX10_puts_71, rX10_puts_72, rX10_puts_73, rX10_puts_75, rX10_puts_76, rX10_puts_79, rX10_puts_80, rX10_puts_81, rX10_puts_82, rX10_puts_83, o, q0, w1, rf_some, true_and, ixA, ixL, vin_nI (show 3 + kk < 373 by omega) (by decide), nI_clamp (show 3 + kk < 2 ^ 31 by omega), r1.1]
      rw [b4]
      simp only [rX10_puts_119, rX10_puts_120, rX10_puts_123, rX10_puts_125, rX10_puts_126, rX10_puts_127, rX10_puts_128, rX10_puts_129, rX10_puts_130, rX10_puts_133, rX10_puts_134, rX10_puts_135, rX10_puts_136, rX10_puts_137, rX10_puts_138, rX10_puts_139, rX10_puts_140, rX10_puts_141, rX10_puts_142, rX10_puts_143, rX10_puts_144, o, q0, w1, rf_some, true_and, nI_add, ixL, vin_nI (show 3 + kk < 373 by omega) (by decide), nI_clamp (show 3 + kk < 2 ^ 31 by omega), vin_nI (show 13 + 30 * kk + ii < 373 by omega) (by decide), nI_clamp (show 13 + 30 * kk + ii < 2 ^ 31 by omega), e3k', nI_1, ne_eq, show ¬ (271 : Nat) = 0 by decide, not_false_eq_true]
      rw [g4]
      simp only [tl_none, rX10_puts_147, rX10_puts_148, rX10_puts_151, rX10_puts_152, rX10_puts_153, rX10_puts_154, rX10_puts_155, o, q0, w1, rf_some, true_and, ixL, vin_nI (show 3 + kk < 373 by omega) (by decide), nI_clamp (show 3 + kk < 2 ^ 31 by omega), e0]
  · rw [if_pos hh]
    refine MA.bad ms (fun K => ?_)
    rw [hd, if_neg hh]
    simp only [rX10_puts_35, rX10_puts_36, rX10_puts_38, rX10_puts_41, o, true_and, mrB ok, tl_some]
theorem M_er_loop {k m : Nat} {x2 x4 : Int32} (ok : mOK w Q) (hk : k < 10) (hm : m < 30) : ∀ d e (I : Nat → Nat → Int32), d + e = m → I 271 (3 + k) = nI m → ∃ I', (∀ j, e ≤ j → j < m → I' 271 (13 + 30 * k + j) = I 271 (13 + 30 * k + (j + 1))) ∧ (∀ z, z < 13 + 30 * k + e ∨ 13 + 30 * k + m ≤ z → I' 271 z = I 271 z) ∧ (∀ c, c ≠ 271 → I' c = I c) ∧ ∀ K, (WP mX10_erases 70 [.ref 270, .int (nI k), .int x2, .int (nI (13 + 30 * k)), .int x4, .int (nI e)] [] w (I, Q, J) K ↔ WP mX10_erases 109 [.ref 270, .int (nI k), .int x2, .int (nI (13 + 30 * k)), .int x4, .int (nI m)] [] w (I', Q, J) K) := by
  obtain ⟨o, ⟨q0, q1, q3, q4, q7, q8, q9, q10, q11⟩, w1, -⟩ := id ok
  intro d
  induction d with
  | zero =>
    intro e I he h3
    refine ⟨I, fun j h1 h2 => by omega, fun _ _ => rfl, fun _ _ => rfl, fun K => ?_⟩
    rw [rX10_erases_70]
    simp only [rX10_erases_72, rX10_erases_73, rX10_erases_76, rX10_erases_77, rX10_erases_78, rX10_erases_79, rX10_erases_80, o, q0, w1, rf_some, true_and, ixL, vin_nI (show 3 + k < 373 by omega) (by decide), nI_clamp (show 3 + k < 2 ^ 31 by omega), h3]
    rw [if_pos (nI_le (by omega) (by omega)), show e = m by omega]
  | succ d ih =>
    intro e I he h3
    obtain ⟨I', f1, f2, f3, f4⟩ := ih (e + 1) (u2 I 271 (13 + 30 * k + e) (I 271 (13 + 30 * k + e + 1))) (by omega) (by rw [u2_ne (Or.inr (by omega))]; exact h3)
    refine ⟨I', fun j h1 h2 => ?_, fun z hz => ?_, fun c hc => (f3 c hc).trans (Fr_u2 c hc), fun K => ?_⟩
    · by_cases q : j = e
      · subst q; rw [f2 _ (Or.inl (by omega)), u2_same, Nat.add_assoc]
      · rw [f1 j (by omega) h2, u2_ne (Or.inr (by omega))]
    · rw [f2 z (by omega), u2_ne (Or.inr (by omega))]
    · rw [← f4 K, rX10_erases_70]
      simp only [rX10_erases_72, rX10_erases_73, rX10_erases_76, rX10_erases_77, rX10_erases_78, rX10_erases_79, rX10_erases_80, rX10_erases_83, rX10_erases_84, rX10_erases_87, rX10_erases_88, rX10_erases_90, rX10_erases_91, rX10_erases_92, rX10_erases_95, rX10_erases_96, rX10_erases_98, rX10_erases_99, rX10_erases_100, rX10_erases_101, rX10_erases_102, rX10_erases_103, rX10_erases_106, o, q0, w1, rf_some, true_and, ixL, vin_nI (show 3 + k < 373 by omega) (by decide), nI_clamp (show 3 + k < 2 ^ 31 by omega), h3, nI_add, nI_1, vin_nI (show 13 + 30 * k + e < 373 by omega) (by decide), nI_clamp (show 13 + 30 * k + e < 2 ^ 31 by omega), vin_nI (show 13 + 30 * k + e + 1 < 373 by omega) (by decide), nI_clamp (show 13 + 30 * k + e + 1 < 2 ^ 31 by omega), ne_eq, show ¬ (271 : Nat) = 0 by decide, not_false_eq_true]
      rw [if_neg (nI_ge (show e < m by omega) (by omega))]
theorem N_erases {k i : Int32} (ms : MS w I Q S) (hv : SV S) : MA w I Q J mX10_erases [.ref 270, .int k, .int i, .null, .null, .null] (.int (sp_erases k i S).1) (sp_erases k i S).2 := by
  obtain ⟨ok, c2, c3, c4, c5, c6, c7⟩ := id ms
  obtain ⟨o, ⟨q0, q1, q3, q4, q7, q8, q9, q10, q11⟩, w1, -⟩ := id ok
  have h10 := hv.2.1.1.1
  have hd : ∀ {K : Option Value → WS → HS → Prop}, WP mX10_erases 0 [.ref 270, .int k, .int i, .null, .null, .null] [] w (I, Q, J) K ↔ if inR k S.2.1.1.length ∧ inR i (S.2.1.1.getD k.toNatClampNeg []).length then WP mX10_erases 33 [.ref 270, .int k, .int i, .null, .null, .null] [] w (I, Q, J) K else WP mX10_erases 26 [.ref 270, .int k, .int i, .null, .null, .null] [] w (I, Q, J) K := by
    intro K
    simp only [rX10_erases_0, rX10_erases_1, rX10_erases_2, o, true_and, M_isLine ok c2.1.1 (show S.2.1.1.length < 1000 by omega), tl_some]
    simp only [rX10_erases_5, if10]
    by_cases hk : inR k S.2.1.1.length
    · rw [if_pos hk]
      obtain ⟨kk, hkk, rfl⟩ := inR_of (by omega) hk
      rw [nI_clamp (show kk < 2 ^ 31 by omega)]
      have h30 := hv.2.1.1.2 kk hkk
      simp only [rX10_erases_8, rX10_erases_9, rX10_erases_10, rX10_erases_11, rX10_erases_14, rX10_erases_15, rX10_erases_16, rX10_erases_17, rX10_erases_18, rX10_erases_19, rX10_erases_20, o, q0, w1, rf_some, true_and, ixL, vin_nI (show 3 + kk < 373 by omega) (by decide), nI_clamp (show 3 + kk < 2 ^ 31 by omega), (c2.2.1 kk hkk).1, M_in, tl_some, rgP (show (S.2.1.1.getD kk []).length < 1000 by omega)]
      simp only [rX10_erases_23, ifn10]
      by_cases h1 : inR i (S.2.1.1.getD kk []).length
      · rw [if_pos h1, if_pos ⟨hk, h1⟩]
      · rw [if_neg h1, if_neg (fun z => h1 z.2)]
    · rw [if_neg hk, if_neg (fun z => hk z.1)]
  unfold sp_erases
  by_cases hh : inR k S.2.1.1.length ∧ inR i (S.2.1.1.getD k.toNatClampNeg []).length
  · rw [if_neg (fun z => z hh)]
    have hd2 : ∀ {K : Option Value → WS → HS → Prop}, WP mX10_erases 0 [.ref 270, .int k, .int i, .null, .null, .null] [] w (I, Q, J) K ↔ WP mX10_erases 33 [.ref 270, .int k, .int i, .null, .null, .null] [] w (I, Q, J) K := by intro K; rw [hd, if_pos hh]
    obtain ⟨h1, h2⟩ := hh
    obtain ⟨kk, hkk, rfl⟩ := inR_of (by omega) h1
    rw [nI_clamp (show kk < 2 ^ 31 by omega)] at h2 ⊢
    have h30 := hv.2.1.1.2 kk hkk
    obtain ⟨ii, hii, rfl⟩ := inR_of (by omega) h2
    rw [nI_clamp (show ii < 2 ^ 31 by omega)]
    obtain ⟨I1, a1, a2, a3, a4, a5⟩ := M_remembers (J := J) ms hv
    have e271 : I1 271 = I 271 := a2 271 (by decide) (by decide) (by decide) (by decide)
    have r1 : lnM (I1 271) kk (S.2.1.1.getD kk []) := by rw [e271]; exact c2.2.1 kk hkk
    have hlm : ((S.2.1.1.getD kk []).eraseIdx ii).length = (S.2.1.1.getD kk []).length - 1 := by rw [List.length_eraseIdx, if_pos hii]
    obtain ⟨I2, b1, b2, b3, b4⟩ := M_er_loop (J := J) (k := kk) (m := (S.2.1.1.getD kk []).length - 1) (x2 := nI ii) (x4 := (S.2.1.1.getD kk []).getD ii 0) ok (by omega) (by omega) ((S.2.1.1.getD kk []).length - 1 - ii) ii (u2 I1 271 (3 + kk) (nI ((S.2.1.1.getD kk []).length - 1))) (by omega) u2_same
    have e3k : I2 271 (3 + kk) = nI ((S.2.1.1.getD kk []).length - 1) := by rw [b2 _ (by omega), u2_same]
    obtain ⟨I4, g1, g2, g3, g4⟩ := N_setLine (J := J) (kk := kk) (l := (S.2.1.1.getD kk []).eraseIdx ii) (I2 := u2 I2 271 (13 + 30 * kk + ((S.2.1.1.getD kk []).length - 1)) 0) ms hv hkk (by omega) a1 a2 a3 a4 (by
      refine ⟨by rw [u2_ne (Or.inr (by omega)), e3k, hlm], fun j hj => ?_⟩
      rw [hlm] at hj
      rw [u2_ne (Or.inr (by omega)), erb_getD]
      by_cases q1 : j < ii
      · rw [if_pos q1, b2 _ (by omega), u2_ne (Or.inr (by omega)), r1.2 j (by omega)]
      · rw [if_neg q1, b1 j (by omega) hj, u2_ne (Or.inr (by omega)), r1.2 (j + 1) (by omega)]) (fun z z1 z2 => by rw [u2_ne (Or.inr (by omega)), b2 z (by omega), u2_ne (Or.inr z1)]) (fun z hz => by rw [Fr_u2 z hz, b3 z hz, Fr_u2 z hz])
    refine ⟨I4, g1, g2, fun K => ?_⟩
    rw [hd2]
    simp only [rX10_erases_33, rX10_erases_34, o, true_and]
    rw [a5]
    simp only [tl_none, rX10_erases_37, rX10_erases_39, rX10_erases_41, rX10_erases_42, rX10_erases_43, rX10_erases_44, rX10_erases_45, rX10_erases_46, rX10_erases_49, rX10_erases_50, rX10_erases_51, rX10_erases_52, rX10_erases_53, rX10_erases_55, rX10_erases_56, rX10_erases_59, rX10_erases_60, rX10_erases_61, rX10_erases_62, rX10_erases_63, rX10_erases_64, rX10_erases_65, rX10_erases_66, rX10_erases_67, rX10_erases_68, o, q0, w1, rf_some, true_and, ixA, ixL, nI_add, vin_nI (show 3 + kk < 373 by omega) (by decide), nI_clamp (show 3 + kk < 2 ^ 31 by omega), vin_nI (show 13 + 30 * kk + ii < 373 by omega) (by decide), nI_clamp (show 13 + 30 * kk + ii < 2 ^ 31 by omega), r1.1, r1.2 ii hii, show nI (S.2.1.1.getD kk []).length - 1 = nI ((S.2.1.1.getD kk []).length - 1) from pk_sub (show 1 ≤ (S.2.1.1.getD kk []).length by omega), ne_eq, show ¬ (271 : Nat) = 0 by decide, not_false_eq_true]
    rw [b4]
    simp only [rX10_erases_109, rX10_erases_110, rX10_erases_113, rX10_erases_114, rX10_erases_115, rX10_erases_118, rX10_erases_119, rX10_erases_120, rX10_erases_121, rX10_erases_122, rX10_erases_123, rX10_erases_124, rX10_erases_125, rX10_erases_126, rX10_erases_127, rX10_erases_128, o, q0, w1, rf_some, true_and, ixL, nI_add, vin_nI (show 3 + kk < 373 by omega) (by decide), nI_clamp (show 3 + kk < 2 ^ 31 by omega), e3k, vin_nI (show 13 + 30 * kk + ((S.2.1.1.getD kk []).length - 1) < 373 by omega) (by decide), nI_clamp (show 13 + 30 * kk + ((S.2.1.1.getD kk []).length - 1) < 2 ^ 31 by omega), ne_eq, show ¬ (271 : Nat) = 0 by decide, not_false_eq_true]
    rw [g4]
    simp only [tl_none, rX10_erases_131, rX10_erases_133]
  · rw [if_pos hh]
    refine MA.bad ms (fun K => ?_)
    rw [hd, if_neg hh]
    simp only [rX10_erases_26, rX10_erases_27, rX10_erases_29, rX10_erases_32, o, true_and, mrB ok, tl_some]
end MD
