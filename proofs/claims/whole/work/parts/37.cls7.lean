section C7
variable {w : WS} {I : Nat → Nat → Int32} {Q : Nat → Nat → Option Nat} {J : Nat → Nat → Int64} {S : SP}
theorem C_word (cs : CS w I Q S) : CA w I Q J mX9_word [.ref 1, .null] (.int (sp_word S).1) (sp_word S).2 := by
  obtain ⟨g, hv, π, nx, hp, rc⟩ := id cs
  obtain ⟨⟨a1, a2, a3, a4, a5⟩, b1, ⟨c1, c2, c3, c4, c5, c6⟩, lns, pn, rl, ⟨h1, h2, h3, h4⟩, -⟩ := id g
  obtain ⟨r1, r2, r3, r4, r5, r6, r7, r8, r9⟩ := id rc
  have hl10 := hv.2.1.1.1
  have hT := hv.1
  have wo := pn.2.2.2
  unfold sp_word
  by_cases hw : wrdI S.1
  · have hh : ∀ {K : Option Value → WS → HS → Prop}, WP mX9_word 0 [.ref 1, .null] [] w (I, Q, J) K ↔ if hasW S.2.1.2.1 S.1 S.2.1.2.1.length 0 = true then WP mX9_word 35 [.ref 1, .null] [] w (I, Q, J) K else WP mX9_word 42 [.ref 1, .null] [] w (I, Q, J) K := by
      intro K
      simp only [rX9_word_0, rX9_word_1, rX9_word_4, a1, a2, rf_some, true_and]
      rw [c_isWord b1 r1 hT, if_pos hw]
      simp only [tl_some, rX9_word_7, rX9_word_10, rX9_word_11, rX9_word_14, rX9_word_17, rX9_word_18, rX9_word_21, rX9_word_22, rX9_word_23, rX9_word_26, rX9_word_29, a1, a2, a3, c1, c3, wo.1, b1.1, r1.1, rf_some, true_and]
      rw [if_neg (by decide), show (0 : Int32) = nI 0 from rfl, c_has wo r3 hv.2.1.2.1 b1 r1 hT (Nat.zero_le _) (Nat.le_refl _)]
      simp only [tl_some, rX9_word_32, List.drop_zero, Nat.sub_zero, List.take_length]
      by_cases q : hasW S.2.1.2.1 S.1 S.2.1.2.1.length 0 = true
      · rw [if_pos q, if_pos q, if_neg (by decide)]
      · rw [if_neg q, if_neg q, if_pos rfl]
    by_cases hq : hasW S.2.1.2.1 S.1 S.2.1.2.1.length 0 = true
    · rw [if_pos (Or.inr hq)]
      refine CA.no cs (fun K => ?_)
      rw [hh, if_pos hq]
      simp only [rX9_word_35, rX9_word_36, rX9_word_38, rX9_word_41, a1, true_and, rfN g, tl_some]
    · rw [if_neg (fun z => z.elim (fun z => z hw) hq)]
      by_cases h4' : S.2.1.2.1.length = 4
      · rw [if_pos h4']
        refine CA.full cs (fun K => ?_)
        rw [hh, if_neg hq]
        simp only [rX9_word_42, rX9_word_43, rX9_word_46, rX9_word_49, rX9_word_52, rX9_word_53, rX9_word_56, rX9_word_57, rX9_word_59, rX9_word_62, a1, a3, c1, c3, wo.1, r3.1, rf_some, true_and, rfF g, tl_some]
        rw [if_neg (show ¬ nI S.2.1.2.1.length < 4 from nI_nlt (show 4 ≤ S.2.1.2.1.length by omega) (by omega))]
      · rw [if_neg h4']
        have hW4 := hv.2.1.2.1.1
        obtain ⟨I1, nx', q1, q2, q3⟩ := C_keep (J := J) g hp rc hv
        have e1 : ∀ c, (c < 92 ∨ 269 ≤ c) → I1 c = I c := fun c q => q2 c (by omega)
        have r3' : wdIs I1 76 78 S.2.1.2.1 := r3.fr hW4 (e1 _ (by omega)) (fun c _ _ => e1 _ (by omega))
        have r1' : rowIs I1 2 3 S.1 := r1.fr (e1 _ (by omega)) (e1 _ (by omega))
        obtain ⟨I2, o1, o2, o3⟩ := c_wdAdd (J := J) wo r3' hv.2.1.2.1 (by omega) b1 r1' hT hw.1.2 (by omega) (by omega)
        have hW' : wdV (S.2.1.2.1 ++ [S.1]) := by
          refine ⟨by simp; omega, fun k hk => ?_⟩
          by_cases q : k < S.2.1.2.1.length
          · rw [show (S.2.1.2.1 ++ [S.1]).getD k [] = S.2.1.2.1.getD k [] by simp only [List.getD_eq_getElem?_getD, List.getElem?_append_left q]]
            exact hv.2.1.2.1.2 k q
          · have hke : k = S.2.1.2.1.length := by simp at hk; omega
            subst hke
            rw [show (S.2.1.2.1 ++ [S.1]).getD S.2.1.2.1.length [] = S.1 by simp [List.getD_eq_getElem?_getD]]
            exact hw.1
        obtain ⟨I3, t1, t2, t3⟩ := C_rewords (J := J) g hp rc hv q1 q2 o1 hW' o2
        refine ⟨_, Q, t1, Fr.tr (Fr.tr (S := fun c => 1 ≤ c ∧ c < 270) (Fr.tr (S := fun c => 1 ≤ c ∧ c < 270) q2 o2 (fun c z => by omega) (fun c z => by omega)) t2 (fun c z => z) (fun c z => by omega)) Fr_u2 (fun c z => z) (fun c z => by omega), fun c hc => rfl, fun K => ?_⟩
        rw [hh, if_neg hq]
        simp only [rX9_word_42, rX9_word_43, rX9_word_46, rX9_word_49, rX9_word_52, rX9_word_53, rX9_word_56, rX9_word_57, rX9_word_59, rX9_word_62, rX9_word_63, rX9_word_64, rX9_word_67, rX9_word_68, rX9_word_71, a1, a3, a4, h1, c1, c3, wo.1, r3.1, rf_some, true_and]
        rw [if_pos (show nI S.2.1.2.1.length < 4 from nI_lt (show S.2.1.2.1.length < 4 by omega) (by decide)), q3]
        simp only [tl_none, rX9_word_74, rX9_word_75, rX9_word_78, rX9_word_81, rX9_word_84, rX9_word_85, rX9_word_86, rX9_word_89, rX9_word_92, rX9_word_93, rX9_word_96, a1, a2, a3, c1, c3, wo.1, r3'.1, rf_some, true_and]
        rw [o3]
        have e4 : I2 4 4 = nI S.2.1.1.length := by rw [o2 4 (by omega), e1 4 (by omega)]; exact r2.1
        simp only [tl_none, rX9_word_99, rX9_word_100, rX9_word_101, rX9_word_104, rX9_word_105, rX9_word_106, rX9_word_109, rX9_word_112, a1, a3, c1, rf_some, true_and, e4]
        rw [show (0 : Int32) = nI 0 from rfl, t3]
        simp only [tl_some, rX9_word_115, rX9_word_118, rX9_word_119, a1, true_and]
  · rw [if_pos (Or.inl hw)]
    refine CA.no cs (fun K => ?_)
    simp only [rX9_word_0, rX9_word_1, rX9_word_4, a1, a2, rf_some, true_and]
    rw [c_isWord b1 r1 hT, if_neg hw]
    simp only [tl_some, rX9_word_7, rX9_word_35, rX9_word_36, rX9_word_38, rX9_word_41, a1, true_and, rfN g, if_true]
theorem remF_V {x : Int32} {W : List (List Int32)} (hW : wdV W) : ∀ n k, n + k ≤ W.length → ∀ l ∈ remF x W n k, 1 ≤ l.length ∧ l.length ≤ 5
  | 0, _, _, l, hl => by simp [remF] at hl
  | n + 1, k, h, l, hl => by
    simp only [remF, List.mem_append] at hl
    rcases hl with q | q
    · split at q
      · simp at q
      · simp only [List.mem_singleton] at q
        subst q
        exact hW.2 k (by omega)
    · exact remF_V hW n (k + 1) (by omega) l q
theorem wdV_rem {x : Int32} {W : List (List Int32)} (hW : wdV W) : wdV (remF x W W.length 0) := by
  refine ⟨Nat.le_trans (remF_len _ _ _ _) hW.1, fun k hk => remF_V (x := x) hW W.length 0 (Nat.le_refl _) _ ?_⟩
  rw [List.getD_eq_getElem?_getD, List.getElem?_eq_getElem hk]
  exact List.getElem_mem hk
theorem C_unword {x : Int32} (cs : CS w I Q S) : CA w I Q J mX9_unword [.ref 1, .int x, .null] (.int (sp_unword x S).1) (sp_unword x S).2 := by
  obtain ⟨g, hv, π, nx, hp, rc⟩ := id cs
  obtain ⟨⟨a1, a2, a3, a4, a5⟩, b1, ⟨c1, c2, c3, c4, c5, c6⟩, lns, pn, rl, ⟨h1, h2, h3, h4⟩, -⟩ := id g
  obtain ⟨r1, r2, r3, r4, r5, r6, r7, r8, r9⟩ := id rc
  have hl10 := hv.2.1.1.1
  have wo := pn.2.2.2
  have hW4 := hv.2.1.2.1.1
  have hlen : ∀ x : Int32, (¬ x < 0 ∧ x ≤ 25) ↔ inR x 26 := fun x => by
    have := leN (i := x) (n := 25) (by decide)
    exact ⟨fun z => this.mpr ⟨z.1, Int32.not_lt.mpr z.2⟩, fun z => ⟨(this.mp z).1, Int32.not_lt.mp (this.mp z).2⟩⟩
  unfold sp_unword
  by_cases hx : inR x 26
  · rw [if_neg (fun z => z hx)]
    obtain ⟨I1, nx', q1, q2, q3⟩ := C_keep (J := J) g hp rc hv
    have e1 : ∀ c, (c < 92 ∨ 269 ≤ c) → I1 c = I c := fun c q => q2 c (by omega)
    have r3' : wdIs I1 76 78 S.2.1.2.1 := r3.fr hW4 (e1 _ (by omega)) (fun c _ _ => e1 _ (by omega))
    obtain ⟨I2, o1, o2, o3⟩ := c_rem (J := J) (x := 97 + x) wo hv.2.1.2.1 r3'
    obtain ⟨I3, t1, t2, t3⟩ := C_rewords (J := J) g hp rc hv q1 q2 o1 (wdV_rem hv.2.1.2.1) o2
    refine ⟨_, Q, t1, Fr.tr (Fr.tr (S := fun c => 1 ≤ c ∧ c < 270) (Fr.tr (S := fun c => 1 ≤ c ∧ c < 270) q2 o2 (fun c z => by omega) (fun c z => by omega)) t2 (fun c z => z) (fun c z => by omega)) Fr_u2 (fun c z => z) (fun c z => by omega), fun c hc => rfl, fun K => ?_⟩
    simp only [rX9_unword_0, rX9_unword_1, rX9_unword_4, rX9_unword_5, rX9_unword_7, rX9_unword_10, rX9_unword_11, rX9_unword_13, rX9_unword_16, rX9_unword_17, rX9_unword_18, rX9_unword_21, rX9_unword_22, rX9_unword_25, a1, a3, a4, h1, rf_some, true_and]
    rw [if_neg ((hlen x).mpr hx).1, if_pos ((hlen x).mpr hx).2, q3]
    simp only [tl_none, rX9_unword_28, rX9_unword_29, rX9_unword_32, rX9_unword_35, rX9_unword_37, rX9_unword_38, rX9_unword_39, a1, a3, c1, c3, wo.1, rf_some, true_and]
    rw [o3]
    have e4 : I2 4 4 = nI S.2.1.1.length := by rw [o2 4 (by omega), e1 4 (by omega)]; exact r2.1
    simp only [tl_some, rX9_unword_42, rX9_unword_43, rX9_unword_44, rX9_unword_45, rX9_unword_48, rX9_unword_49, rX9_unword_50, rX9_unword_53, rX9_unword_56, a1, a3, c1, rf_some, true_and, e4]
    rw [show (0 : Int32) = nI 0 from rfl, t3]
    simp only [tl_some, rX9_unword_59, rX9_unword_62, rX9_unword_63, a1, true_and]
  · rw [if_pos hx]
    refine CA.bad cs (fun K => ?_)
    simp only [rX9_unword_0, rX9_unword_1, rX9_unword_4, rX9_unword_5, rX9_unword_7, rX9_unword_10, rX9_unword_11, rX9_unword_13, rX9_unword_16, a1, true_and, rfB g, tl_some]
    by_cases q : x < 0
    · rw [if_pos q]
    · rw [if_neg q, if_neg (fun z => hx ((hlen x).mp ⟨q, z⟩))]
end C7
