section ME0
variable {w : WS} {I : Nat → Nat → Int32} {Q : Nat → Nat → Option Nat} {J : Nat → Nat → Int64} {K : Option Value → WS → HS → Prop} {S : SP}
theorem M_sp_loop {k i m : Nat} (ok : mOK w Q) (hk : k < 9) (him : i + m ≤ 30) : ∀ d e (I : Nat → Nat → Int32), d + e = m → ∃ I', (∀ j, e ≤ j → j < m → I' 271 (13 + 30 * (k + 1) + j) = I 271 (13 + 30 * k + i + j)) ∧ (∀ z, z < 13 + 30 * k + i ∨ 13 + 30 * (k + 1) + 30 ≤ z → I' 271 z = I 271 z) ∧ (∀ j, j < e → I' 271 (13 + 30 * (k + 1) + j) = I 271 (13 + 30 * (k + 1) + j)) ∧ (∀ c, c ≠ 271 → I' c = I c) ∧ ∀ K, (WP mX10_splits 85 [.ref 270, .int (nI k), .int (nI i), .int (nI m), .int (nI (13 + 30 * k + i)), .int (nI e)] [] w (I, Q, J) K ↔ WP mX10_splits 135 [.ref 270, .int (nI k), .int (nI i), .int (nI m), .int (nI (13 + 30 * k + i)), .int (nI m)] [] w (I', Q, J) K) := by
  obtain ⟨o, ⟨q0, q1, q3, q4, q7, q8, q9, q10, q11⟩, w1, -⟩ := id ok
  intro d
  induction d with
  | zero =>
    intro e I he
    refine ⟨I, fun j h1 h2 => by omega, fun _ _ => rfl, fun _ _ => rfl, fun _ _ => rfl, fun K => ?_⟩
    rw [rX10_splits_85]
    simp only [rX10_splits_87, rX10_splits_88]
    rw [if_pos (nI_le (by omega) (by omega)), show e = m by omega]
  | succ d ih =>
    intro e I he
    obtain ⟨I', f1, f2, f3, f4, f5⟩ := ih (e + 1) (u2 (u2 I 271 (13 + 30 * (k + 1) + e) (I 271 (13 + 30 * k + i + e))) 271 (13 + 30 * k + i + e) 0) (by omega)
    refine ⟨I', fun j h1 h2 => ?_, fun z hz => ?_, fun j hj => ?_, fun c hc => by rw [f4 c hc, Fr_u2 c hc, Fr_u2 c hc], fun K => ?_⟩
    · by_cases q : j = e
      · subst q; rw [f3 _ (by omega), u2_ne (Or.inr (by omega)), u2_same]
      · rw [f1 j (by omega) h2, u2_ne (Or.inr (by omega)), u2_ne (Or.inr (by omega))]
    · rw [f2 z hz, u2_ne (Or.inr (by omega)), u2_ne (Or.inr (by omega))]
    · rw [f3 j (by omega), u2_ne (Or.inr (by omega)), u2_ne (Or.inr (by omega))]
    · rw [← f5 K, rX10_splits_85]
      simp only [rX10_splits_87, rX10_splits_88, rX10_splits_91, rX10_splits_92, rX10_splits_95, rX10_splits_97, rX10_splits_99, rX10_splits_100, rX10_splits_101, rX10_splits_102, rX10_splits_103, rX10_splits_104, rX10_splits_106, rX10_splits_107, rX10_splits_108, rX10_splits_111, rX10_splits_113, rX10_splits_115, rX10_splits_116, rX10_splits_117, rX10_splits_118, rX10_splits_119, rX10_splits_122, rX10_splits_124, rX10_splits_126, rX10_splits_127, rX10_splits_128, rX10_splits_129, rX10_splits_132, o, q0, w1, rf_some, true_and, nI_1, ixB, nI_add, vin_nI (show 13 + 30 * (k + 1) + e < 373 by omega) (by decide), nI_clamp (show 13 + 30 * (k + 1) + e < 2 ^ 31 by omega), vin_nI (show 13 + 30 * k + i + e < 373 by omega) (by decide), nI_clamp (show 13 + 30 * k + i + e < 2 ^ 31 by omega), ne_eq, show ¬ (271 : Nat) = 0 by decide, not_false_eq_true]
      rw [if_neg (nI_ge (show e < m by omega) (by omega))]
theorem zV_spl {kk ii : Nat} (hv : SV S) (hkk : kk < S.2.1.1.length) (hlt : S.2.1.1.length < 10) : zV (splL S.2.1.1 kk ii, S.2.1.2) := by
  have hlen := spl_len (ls := S.2.1.1) (k := kk) (i := ii) hkk
  have hl30 := hv.2.1.1.2 kk hkk
  refine ⟨⟨by show (splL S.2.1.1 kk ii).length ≤ 10; omega, fun j hj => ?_⟩, hv.2.1.2⟩
  have hj : j < S.2.1.1.length + 1 := by rw [← hlen]; exact hj
  show ((splL S.2.1.1 kk ii).getD j []).length ≤ 30
  rw [spl_getD hkk]
  split
  · exact hv.2.1.1.2 j (by omega)
  · split
    · rw [List.length_take]; omega
    · split
      · rw [List.length_drop]; omega
      · exact hv.2.1.1.2 (j - 1) (by omega)
theorem N_splits {k i : Int32} (ms : MS w I Q S) (hv : SV S) : MA w I Q J mX10_splits [.ref 270, .int k, .int i, .null, .null, .null] (.int (sp_splits k i S).1) (sp_splits k i S).2 := by
  obtain ⟨ok, c2, c3, c4, c5, c6, c7⟩ := id ms
  obtain ⟨o, ⟨q0, q1, q3, q4, q7, q8, q9, q10, q11⟩, w1, -⟩ := id ok
  have h10 := hv.2.1.1.1
  have v0 : vin 0 373 := vin_nI (n := 0) (by decide) (by decide)
  have hd : ∀ {K : Option Value → WS → HS → Prop}, WP mX10_splits 0 [.ref 270, .int k, .int i, .null, .null, .null] [] w (I, Q, J) K ↔ if inR k S.2.1.1.length ∧ inR i ((S.2.1.1.getD k.toNatClampNeg []).length + 1) then WP mX10_splits 31 [.ref 270, .int k, .int i, .null, .null, .null] [] w (I, Q, J) K else WP mX10_splits 24 [.ref 270, .int k, .int i, .null, .null, .null] [] w (I, Q, J) K := by
    intro K
    simp only [rX10_splits_0, rX10_splits_1, rX10_splits_2, o, true_and, M_isLine ok c2.1.1 (show S.2.1.1.length < 1000 by omega), tl_some]
    simp only [rX10_splits_5, if10]
    by_cases hk : inR k S.2.1.1.length
    · rw [if_pos hk]
      obtain ⟨kk, hkk, rfl⟩ := inR_of (by omega) hk
      rw [nI_clamp (show kk < 2 ^ 31 by omega)]
      have h30 := hv.2.1.1.2 kk hkk
      simp only [rX10_splits_8, rX10_splits_9, rX10_splits_10, rX10_splits_11, rX10_splits_14, rX10_splits_15, rX10_splits_16, rX10_splits_17, rX10_splits_18, o, q0, w1, rf_some, true_and, ixL, vin_nI (show 3 + kk < 373 by omega) (by decide), nI_clamp (show 3 + kk < 2 ^ 31 by omega), (c2.2.1 kk hkk).1, M_in, tl_some, rgN (show (S.2.1.1.getD kk []).length < 1000 by omega)]
      simp only [rX10_splits_21, ifn10]
      by_cases h1 : inR i ((S.2.1.1.getD kk []).length + 1)
      · rw [if_pos h1, if_pos ⟨hk, h1⟩]
      · rw [if_neg h1, if_neg (fun z => h1 z.2)]
    · rw [if_neg hk, if_neg (fun z => hk z.1)]
  unfold sp_splits
  by_cases hh : inR k S.2.1.1.length ∧ inR i ((S.2.1.1.getD k.toNatClampNeg []).length + 1)
  · rw [if_neg (fun z => z hh)]
    have hd2 : ∀ {K : Option Value → WS → HS → Prop}, WP mX10_splits 0 [.ref 270, .int k, .int i, .null, .null, .null] [] w (I, Q, J) K ↔ WP mX10_splits 31 [.ref 270, .int k, .int i, .null, .null, .null] [] w (I, Q, J) K := by intro K; rw [hd, if_pos hh]
    obtain ⟨h1, h2⟩ := hh
    obtain ⟨kk, hkk, rfl⟩ := inR_of (by omega) h1
    rw [nI_clamp (show kk < 2 ^ 31 by omega)] at h2 ⊢
    have h30 := hv.2.1.1.2 kk hkk
    obtain ⟨ii, hii, rfl⟩ := inR_of (by omega) h2
    rw [nI_clamp (show ii < 2 ^ 31 by omega)]
    by_cases hf : S.2.1.1.length = 10
    · rw [if_pos hf]
      refine MA.full ms (fun K => ?_)
      rw [hd2]
      simp only [rX10_splits_31, rX10_splits_32, rX10_splits_35, rX10_splits_36, rX10_splits_37, rX10_splits_39, rX10_splits_42, rX10_splits_43, rX10_splits_45, rX10_splits_48, o, q0, w1, rf_some, true_and, v0, cl0, c2.1.1, mrF ok, tl_some]
      rw [if_neg (show ¬ ¬ nI S.2.1.1.length = 10 from fun z => z (by rw [hf]; rfl))]
    · rw [if_neg hf]
      have hlt : S.2.1.1.length < 10 := by omega
      obtain ⟨I1, a1, a2, a3, a4, a5⟩ := M_remembers (J := J) ms hv
      have e271 : I1 271 = I 271 := a2 271 (by decide) (by decide) (by decide) (by decide)
      obtain ⟨I2, b1, b2, b3, b4, b5, b6, b7⟩ := M_opens (I := I1) (J := J) (k := kk + 1) ok (show kk + 1 ≤ S.2.1.1.length by omega) (by omega) (by rw [e271]; exact c2.1.1)
      have rk : lnM (I2 271) kk (S.2.1.1.getD kk []) := by
        have := (b2 kk (by omega)).1
        rw [e271] at this
        exact this.ln (c2.2.1 kk hkk) h30
      obtain ⟨I3, d1, d2, d3, d4, d5⟩ := M_sp_loop (J := J) (k := kk) (i := ii) (m := (S.2.1.1.getD kk []).length - ii) ok (by omega) (by omega) ((S.2.1.1.getD kk []).length - ii) 0 I2 rfl
      have hlen := spl_len (ls := S.2.1.1) (k := kk) (i := ii) hkk
      have ez : ∀ z, z ≠ 3 + kk → z ≠ 3 + kk + 1 → u2 (u2 I3 271 (3 + kk) (nI ii)) 271 (3 + kk + 1) (nI ((S.2.1.1.getD kk []).length - ii)) 271 z = I3 271 z := fun z z1 z2 => by rw [u2_ne (Or.inr z2), u2_ne (Or.inr z1)]
      have eoth : ∀ c, c ≠ 271 → u2 (u2 I3 271 (3 + kk) (nI ii)) 271 (3 + kk + 1) (nI ((S.2.1.1.getD kk []).length - ii)) c = I2 c := fun c hc => by rw [Fr_u2 c hc, Fr_u2 c hc, d4 c hc]
      have hnow : nowIs (u2 (u2 I3 271 (3 + kk) (nI ii)) 271 (3 + kk + 1) (nI ((S.2.1.1.getD kk []).length - ii)) 271) (splL S.2.1.1 kk ii, S.2.1.2) := by
        refine nowIs.ls (ls := S.2.1.1) (N := I 271) c2 (fun z hz => ?_) ?_ (fun j hj => ?_)
        · rw [ez z (by omega) (by omega), d2 z (by omega), b5 z hz, e271]
        · rw [ez 0 (by omega) (by omega), d2 0 (by omega), b1, hlen]
        · rw [hlen] at hj
          rw [spl_getD hkk]
          by_cases q1 : j < kk
          · rw [if_pos q1]
            have := (b2 j (by omega)).1
            rw [e271] at this
            have h3 : lnE (u2 (u2 I3 271 (3 + kk) (nI ii)) 271 (3 + kk + 1) (nI ((S.2.1.1.getD kk []).length - ii)) 271) j (I2 271) j := ⟨by rw [ez _ (by omega) (by omega), d2 _ (by omega)], fun t ht => by rw [ez _ (by omega) (by omega), d2 _ (by omega)]⟩
            exact (h3.tr this).ln (c2.2.1 j (by omega)) (hv.2.1.1.2 j (by omega))
          · rw [if_neg q1]
            by_cases q2 : j = kk
            · rw [if_pos q2, q2]
              refine ⟨by rw [u2_ne (Or.inr (by omega)), u2_same, List.length_take, Nat.min_eq_left (by omega)], fun t ht => ?_⟩
              rw [List.length_take] at ht
              rw [ez _ (by omega) (by omega), d2 _ (by omega), rk.2 t (by omega)]
              simp only [List.getD_eq_getElem?_getD, List.getElem?_take, show t < ii by omega, if_true]
            · rw [if_neg q2]
              by_cases q3 : j = kk + 1
              · rw [if_pos q3, q3]
                refine ⟨by rw [show 3 + (kk + 1) = 3 + kk + 1 by omega, u2_same, List.length_drop], fun t ht => ?_⟩
                rw [List.length_drop] at ht
                rw [ez _ (by omega) (by omega), d1 t (Nat.zero_le _) ht, show 13 + 30 * kk + ii + t = 13 + 30 * kk + (ii + t) by omega, rk.2 (ii + t) (by omega)]
                simp only [List.getD_eq_getElem?_getD, List.getElem?_drop]
              · rw [if_neg q3]
                have := (b4 j (by omega) (by omega)).1
                rw [e271] at this
                have h3 : lnE (u2 (u2 I3 271 (3 + kk) (nI ii)) 271 (3 + kk + 1) (nI ((S.2.1.1.getD kk []).length - ii)) 271) j (I2 271) j := ⟨by rw [ez _ (by omega) (by omega), d2 _ (by omega)], fun t ht => by rw [ez _ (by omega) (by omega), d2 _ (by omega)]⟩
                exact (h3.tr this).ln (c2.2.1 (j - 1) (by omega)) (hv.2.1.1.2 (j - 1) (by omega))
      obtain ⟨I4, g1, g2, g3, g4⟩ := N_ch (J := J) (Z := (splL S.2.1.1 kk ii, S.2.1.2)) (first := kk) (last := kk + 1) (nw := fun j => j == kk + 1) (E := fun j => if j ≤ kk then stAt S.2.1.2.1 S.2.1.1 (j + 1) else stAt S.2.1.2.1 S.2.1.1 j) ms a1 a2 a3 (fun c z1 z2 => by rw [eoth c z1, b6 c z1 z2]) (zV_spl hv hkk hlt) hnow (by omega) (by show kk ≤ (splL S.2.1.1 kk ii).length; omega) (fun j => by split <;> exact stAt_ok _ _ _) (fun j h1 h2 => by
        have h2' : j < S.2.1.1.length + 1 := by rw [← hlen]; exact h2
        unfold wasM
        by_cases e : j = kk + 1
        · rw [if_pos (by simp [e]), eoth 279 (by decide), e]; exact b3.2
        · rw [if_neg (by simp [e])]
          dsimp only
          by_cases q : j ≤ kk
          · rw [if_pos q]
            refine ⟨j, by omega, ?_, ?_⟩
            · rw [eoth 279 (by decide), (b2 j (by omega)).2, (a4 j (by omega)).2]
            · rw [eoth 278 (by decide), b6 278 (by decide) (by decide), (a4 j (by omega)).1, (c7 j (by omega)).2]
          · rw [if_neg q]
            refine ⟨j - 1, by omega, ?_, ?_⟩
            · rw [eoth 279 (by decide), (b4 j (by omega) (by omega)).2, (a4 (j - 1) (by omega)).2]
            · rw [eoth 278 (by decide), b6 278 (by decide) (by decide), (a4 (j - 1) (by omega)).1, (c7 (j - 1) (by omega)).2, show j - 1 + 1 = j by omega]) rfl
      refine ⟨I4, g1, g2, fun K => ?_⟩
      have e0 : I4 271 0 = nI (S.2.1.1.length + 1) := by rw [g3, ez 0 (by omega) (by omega), d2 0 (by omega), b1]
      rw [hd2]
      simp only [rX10_splits_31, rX10_splits_32, rX10_splits_35, rX10_splits_36, rX10_splits_37, rX10_splits_39, rX10_splits_42, rX10_splits_43, rX10_splits_45, rX10_splits_48, rX10_splits_49, rX10_splits_50, o, q0, w1, rf_some, true_and, v0, cl0, c2.1.1]
      rw [if_pos (show ¬ nI S.2.1.1.length = 10 from fun z => hf (nI_inj (b := 10) (by omega) (by decide) z)), a5]
      simp only [tl_none, rX10_splits_53, rX10_splits_54, rX10_splits_55, rX10_splits_56, rX10_splits_57, o, true_and, nI_1]
      rw [b7]
      simp only [tl_none, rX10_splits_60, rX10_splits_61, rX10_splits_64, rX10_splits_65, rX10_splits_66, rX10_splits_67, rX10_splits_68, rX10_splits_69, rX10_splits_70, rX10_splits_71, rX10_splits_73, rX10_splits_75, rX10_splits_76, rX10_splits_77, rX10_splits_78, rX10_splits_79, rX10_splits_80, rX10_splits_82, rX10_splits_83, o, q0, w1, rf_some, true_and, ixL, ixB, vin_nI (show 3 + kk < 373 by omega) (by decide), nI_clamp (show 3 + kk < 2 ^ 31 by omega), rk.1, show nI (S.2.1.1.getD kk []).length - nI ii = nI ((S.2.1.1.getD kk []).length - ii) from pk_sub (by omega)]
      rw [show (0 : Int32) = nI 0 from rfl, d5]
      simp only [rX10_splits_135, rX10_splits_136, rX10_splits_139, rX10_splits_140, rX10_splits_141, rX10_splits_142, rX10_splits_143, rX10_splits_144, rX10_splits_145, rX10_splits_148, rX10_splits_149, rX10_splits_150, rX10_splits_151, rX10_splits_152, rX10_splits_153, rX10_splits_154, rX10_splits_155, rX10_splits_156, rX10_splits_157, rX10_splits_158, rX10_splits_159, rX10_splits_160, o, q0, w1, rf_some, true_and, ixL, nI_1, vin_nI (show 3 + kk < 373 by omega) (by decide), nI_clamp (show 3 + kk < 2 ^ 31 by omega), vin_nI (show 3 + kk + 1 < 373 by omega) (by decide), nI_clamp (show 3 + kk + 1 < 2 ^ 31 by omega), ne_eq, show ¬ (271 : Nat) = 0 by decide, not_false_eq_true]
      rw [g4]
      simp only [tl_none, rX10_splits_163, rX10_splits_164, rX10_splits_167, rX10_splits_168, rX10_splits_169, o, q0, w1, rf_some, true_and, v0, cl0, e0]
  · rw [if_pos hh]
    refine MA.bad ms (fun K => ?_)
    rw [hd, if_neg hh]
    simp only [rX10_splits_24, rX10_splits_25, rX10_splits_27, rX10_splits_30, o, true_and, mrB ok, tl_some]
end ME0
