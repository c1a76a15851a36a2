/-! ===== colours and modes are small numbers ===== -/
def okC (q : Int32 × Int32) : Prop := ∃ c m, c < 8 ∧ m < 3 ∧ q = (nI c, nI m)
theorem okC_of {x y : Int32} (hx : x = 0 ∨ x = 1 ∨ x = 2 ∨ x = 3 ∨ x = 4 ∨ x = 5 ∨ x = 6 ∨ x = 7) (hy : y = 0 ∨ y = 1 ∨ y = 2) : okC (x, y) := by
  rcases hx with rfl | rfl | rfl | rfl | rfl | rfl | rfl | rfl <;> rcases hy with rfl | rfl | rfl
  all_goals first | exact ⟨0, 0, by decide, by decide, rfl⟩ | exact ⟨0, 1, by decide, by decide, rfl⟩ | exact ⟨0, 2, by decide, by decide, rfl⟩ | exact ⟨1, 0, by decide, by decide, rfl⟩ | exact ⟨1, 1, by decide, by decide, rfl⟩ | exact ⟨1, 2, by decide, by decide, rfl⟩ | exact ⟨2, 0, by decide, by decide, rfl⟩ | exact ⟨2, 1, by decide, by decide, rfl⟩ | exact ⟨2, 2, by decide, by decide, rfl⟩ | exact ⟨3, 0, by decide, by decide, rfl⟩ | exact ⟨3, 1, by decide, by decide, rfl⟩ | exact ⟨3, 2, by decide, by decide, rfl⟩ | exact ⟨4, 0, by decide, by decide, rfl⟩ | exact ⟨4, 1, by decide, by decide, rfl⟩ | exact ⟨4, 2, by decide, by decide, rfl⟩ | exact ⟨5, 0, by decide, by decide, rfl⟩ | exact ⟨5, 1, by decide, by decide, rfl⟩ | exact ⟨5, 2, by decide, by decide, rfl⟩ | exact ⟨6, 0, by decide, by decide, rfl⟩ | exact ⟨6, 1, by decide, by decide, rfl⟩ | exact ⟨6, 2, by decide, by decide, rfl⟩ | exact ⟨7, 0, by decide, by decide, rfl⟩ | exact ⟨7, 1, by decide, by decide, rfl⟩ | exact ⟨7, 2, by decide, by decide, rfl⟩
theorem mdI_ok (k : Nat) : mdI k = 0 ∨ mdI k = 1 ∨ mdI k = 2 := by
  unfold mdI; split
  · simp
  · split <;> simp
theorem stepP_col (W : List (List Int32)) (l : List Int32) (i : Nat) (P : List Nat) (t : Nat) : okC ((stepP W l i P t).2.1, mdI (topP P)) := by
  refine okC_of ?_ (mdI_ok _)
  unfold stepP
  split
  · simp only [remC]; split
    · split <;> simp
    · simp
  · split
    · split
      · simp
      · simp only [strC]; split
        · split <;> simp
        · simp
    · split
      · dsimp only; split <;> simp
      · split
        · simp
        · split
          · simp
          · split
            · simp
            · simp only [codC]; split
              · split <;> simp
              · split
                · split <;> simp
                · split
                  · split <;> simp
                  · simp
theorem paintL_col {W : List (List Int32)} {l : List Int32} : ∀ n i P t c, (∀ q ∈ c, okC q) → ∀ q ∈ (paintL W l n i P t c).1, okC q := by
  intro n
  induction n with
  | zero => intro i P t c h; exact h
  | succ n ih =>
    intro i P t c h
    simp only [paintL]
    split
    · apply ih
      intro q hq
      rcases List.mem_append.mp hq with z | z
      · exact h q z
      · rw [(List.mem_replicate.mp z).2]; exact stepP_col W l i P t
    · exact h
theorem lineP_col {W : List (List Int32)} {l : List Int32} {S : List Nat × Nat} : ∀ q ∈ (lineP W l S).1, okC q := by
  unfold lineP
  split
  · intro q hq
    rw [(List.mem_replicate.mp hq).2]
    refine okC_of ?_ (by simp)
    split <;> simp
  · exact paintL_col _ _ _ _ _ (fun q hq => by simp at hq)
theorem colS_ok {S : SP} {k j : Nat} (hj : j < (S.2.1.1.getD k []).length) : okC ((colS S k).getD j (0, 0)) := by
  have hl : (colS S k).length = (S.2.1.1.getD k []).length := (lineP_ok (stAt_ok _ _ _)).1
  have : (colS S k).getD j (0, 0) ∈ colS S k := by
    rw [List.getD_eq_getElem?_getD, List.getElem?_eq_getElem (by omega)]
    exact List.getElem_mem _
  exact lineP_col _ this
theorem colS_len (S : SP) (k : Nat) : (colS S k).length = (S.2.1.1.getD k []).length := (lineP_ok (stAt_ok _ _ _)).1
section C2
variable {w : WS} {I : Nat → Nat → Int32} {Q : Nat → Nat → Option Nat} {J : Nat → Nat → Int64} {S : SP}
theorem outR {x : Int32} {n : Nat} (hn : n < 2 ^ 31) (hx : ¬ inR x n) : x.toInt < 0 ∨ (n : Int) ≤ x.toInt := by
  rcases pk_ix x hn with q | q | ⟨j, hj, rfl⟩
  · left; have := Int32.lt_iff_toInt_lt.mp q; simpa using this
  · right; have := Int32.le_iff_toInt_le.mp q; rwa [nI_toInt hn] at this
  · exact absurd (inR_lt hj hn) hx
theorem C_at {k i x : Int32} (cs : CS w I Q S) : CA w I Q J mX9_at [.ref 1, .int k, .int i, .int x, .null] (.int (sp_at k i x S).1) (sp_at k i x S).2 := by
  obtain ⟨g, hv, π, nx, hp, rc⟩ := id cs
  obtain ⟨⟨a1, a2, a3, a4, a5⟩, b1, ⟨c1, c2, c3, c4, c5, c6⟩, lns, pn, rl, -⟩ := id g
  obtain ⟨r1, r2, r3, r4, r5, r6, r7, r8, r9⟩ := id rc
  have hl10 := hv.2.1.1.1
  unfold sp_at
  by_cases hki : inR k S.2.1.1.length ∧ inR i (S.2.1.1.getD k.toNatClampNeg []).length
  · obtain ⟨kk, hkk, rfl⟩ := inR_of (by omega) hki.1
    have hb := hki.2
    rw [nI_clamp (show kk < 2 ^ 31 by omega)] at hb ⊢
    have hl30 := hv.2.1.1.2 kk hkk
    obtain ⟨ii, hii, rfl⟩ := inR_of (by omega) hb
    have hk10 : kk < 10 := by omega
    have hpk := hp.1 kk hk10
    have lk := lns (π kk) hpk.2
    have hpd := r8 kk hkk
    have hcl := colS_len S kk
    have hpt := hpd.1 ii (by show ii < (colS S kk).length; omega)
    have e1 : I (6 + 7 * π kk + 3) ii = ((colS S kk).getD ii (0, 0)).1 := hpt.1
    have e2 : I (6 + 7 * π kk + 4) ii = ((colS S kk).getD ii (0, 0)).2 := hpt.2
    have hd : ∀ {K : Option Value → WS → HS → Prop}, WP mX9_at 0 [.ref 1, .int (nI kk), .int (nI ii), .int x, .null] [] w (I, Q, J) K ↔ WP mX9_at 31 [.ref 1, .int (nI kk), .int (nI ii), .int x, .ref (6 + 7 * π kk)] [.int x] w (I, Q, J) K := by
      intro K
      simp only [rX9_at_0, rX9_at_1, rX9_at_4, rX9_at_5, rX9_at_6, rX9_at_9, rX9_at_12, rX9_at_13, rX9_at_15, rX9_at_18, rX9_at_19, rX9_at_20, rX9_at_23, rX9_at_26, rX9_at_27, rX9_at_28, rX9_at_30, a1, a3, rf_some, c1, true_and]
      rw [c_hasByte g hp r2 hv.2.1.1]
      simp only [tl_some, rX9_at_0, rX9_at_1, rX9_at_4, rX9_at_5, rX9_at_6, rX9_at_9, rX9_at_12, rX9_at_13, rX9_at_15, rX9_at_18, rX9_at_19, rX9_at_20, rX9_at_23, rX9_at_26, rX9_at_27, rX9_at_28, rX9_at_30, a1, a3, c1, c2, c6, rf_some, true_and, true_or, vin_nI hk10 (by decide), nI_clamp (show kk < 2 ^ 31 by omega), hpk.1]
      rw [if_pos (show inR (nI kk) S.2.1.1.length ∧ inR (nI ii) (S.2.1.1.getD kk []).length from ⟨hki.1, hb⟩), if_pos (by decide)]
    by_cases hx : inR x 3
    · rw [if_neg (fun z => z ⟨hki.1, hb, hx⟩)]
      obtain ⟨xx, hxx, rfl⟩ := inR_of (by decide) hx
      refine CA.same cs (fun K => ?_)
      dsimp only
      rw [hd, nI_clamp (show xx < 2 ^ 31 by omega), nI_clamp (show ii < 2 ^ 31 by omega)]
      rcases (show xx = 0 ∨ xx = 1 ∨ xx = 2 by omega) with rfl | rfl | rfl
      · simp only [show nI 0 = 0 from rfl]
        simp only [rX9_at_31_0, rX9_at_31_1, rX9_at_31_2, rX9_at_56, rX9_at_58, rX9_at_61, rX9_at_62, rX9_at_65, rX9_at_66, rX9_at_68, rX9_at_71, rX9_at_72, rX9_at_73, rX9_at_74, rX9_at_75, rX9_at_78, rX9_at_81, rX9_at_83, rX9_at_86, rX9_at_87, rX9_at_88, rX9_at_90, rX9_at_93, rX9_at_94, rX9_at_95, rX9_at_98, rX9_at_99, rX9_at_100, rX9_at_102, rX9_at_105, lk.1, lk.2.1, rf_some, true_and, lk.2.2.2.2.2.1.1]
        rw [c_signAt lk.2.2.2.2.2.1 (r2.2 kk hkk) hl30 (by omega), if_pos hii]
        simp only [tl_some, rX9_at_31_0, rX9_at_31_1, rX9_at_31_2, rX9_at_56, rX9_at_58, rX9_at_61, rX9_at_62, rX9_at_65, rX9_at_66, rX9_at_68, rX9_at_71, rX9_at_72, rX9_at_73, rX9_at_74, rX9_at_75, rX9_at_78, rX9_at_81, rX9_at_83, rX9_at_86, rX9_at_87, rX9_at_88, rX9_at_90, rX9_at_93, rX9_at_94, rX9_at_95, rX9_at_98, rX9_at_99, rX9_at_100, rX9_at_102, rX9_at_105]
        rfl
      · simp only [show nI 1 = 1 from rfl]
        simp only [rX9_at_31_0, rX9_at_31_1, rX9_at_31_2, rX9_at_56, rX9_at_58, rX9_at_61, rX9_at_62, rX9_at_65, rX9_at_66, rX9_at_68, rX9_at_71, rX9_at_72, rX9_at_73, rX9_at_74, rX9_at_75, rX9_at_78, rX9_at_81, rX9_at_83, rX9_at_86, rX9_at_87, rX9_at_88, rX9_at_90, rX9_at_93, rX9_at_94, rX9_at_95, rX9_at_98, rX9_at_99, rX9_at_100, rX9_at_102, rX9_at_105, lk.1, lk.2.2.1, rf_some, true_and, lk.2.2.2.2.2.2.1, vin_nI (show ii < 30 by omega) (by decide), nI_clamp (show ii < 2 ^ 31 by omega), e1]
        rfl
      · obtain ⟨cc, mm, hc8, hm3, hcm⟩ := colS_ok (S := S) (k := kk) hii
        have ev : atV S kk ii 2 = (shF S.2.1.2.2 cc mm).2 := by
          unfold atV
          rw [if_neg (by decide), if_neg (by decide), hcm]
          dsimp only
          rw [nI_clamp (by omega), nI_clamp (by omega)]
        rw [ev]
        simp only [show nI 2 = 2 from rfl]
        simp only [rX9_at_31_0, rX9_at_31_1, rX9_at_31_2, rX9_at_56, rX9_at_58, rX9_at_61, rX9_at_62, rX9_at_65, rX9_at_66, rX9_at_68, rX9_at_71, rX9_at_72, rX9_at_73, rX9_at_74, rX9_at_75, rX9_at_78, rX9_at_81, rX9_at_83, rX9_at_86, rX9_at_87, rX9_at_88, rX9_at_90, rX9_at_93, rX9_at_94, rX9_at_95, rX9_at_98, rX9_at_99, rX9_at_100, rX9_at_102, rX9_at_105, a1, a3, c1, c4, rl.1, lk.1, lk.2.2.1, lk.2.2.2.1, rf_some, true_and, lk.2.2.2.2.2.2.1, lk.2.2.2.2.2.2.2.1, vin_nI (show ii < 30 by omega) (by decide), nI_clamp (show ii < 2 ^ 31 by omega), e1, e2, hcm]
        rw [c_shadeOf rl r4 hc8 hm3]
        simp only [tl_some, rX9_at_31_0, rX9_at_31_1, rX9_at_31_2, rX9_at_56, rX9_at_58, rX9_at_61, rX9_at_62, rX9_at_65, rX9_at_66, rX9_at_68, rX9_at_71, rX9_at_72, rX9_at_73, rX9_at_74, rX9_at_75, rX9_at_78, rX9_at_81, rX9_at_83, rX9_at_86, rX9_at_87, rX9_at_88, rX9_at_90, rX9_at_93, rX9_at_94, rX9_at_95, rX9_at_98, rX9_at_99, rX9_at_100, rX9_at_102, rX9_at_105]
    · rw [if_pos (fun z => hx z.2.2)]
      refine CA.bad cs (fun K => ?_)
      have ho := outR (by decide) hx
      rw [hd, rX9_at_31_d (by omega)]
      simp only [rX9_at_31_0, rX9_at_31_1, rX9_at_31_2, rX9_at_56, rX9_at_58, rX9_at_61, rX9_at_62, rX9_at_65, rX9_at_66, rX9_at_68, rX9_at_71, rX9_at_72, rX9_at_73, rX9_at_74, rX9_at_75, rX9_at_78, rX9_at_81, rX9_at_83, rX9_at_86, rX9_at_87, rX9_at_88, rX9_at_90, rX9_at_93, rX9_at_94, rX9_at_95, rX9_at_98, rX9_at_99, rX9_at_100, rX9_at_102, rX9_at_105, a1, true_and, rfB g, tl_some]
  · rw [if_pos (fun z => hki ⟨z.1, z.2.1⟩)]
    refine CA.bad cs (fun K => ?_)
    simp only [rX9_at_0, rX9_at_1, rX9_at_4, rX9_at_5, rX9_at_6, rX9_at_9, rX9_at_12, rX9_at_13, rX9_at_15, rX9_at_18, rX9_at_19, rX9_at_20, rX9_at_23, rX9_at_26, rX9_at_27, rX9_at_28, rX9_at_30, a1, a3, rf_some, c1, true_and]
    rw [c_hasByte g hp r2 hv.2.1.1]
    simp only [tl_some, rX9_at_0, rX9_at_1, rX9_at_4, rX9_at_5, rX9_at_6, rX9_at_9, rX9_at_12, rX9_at_13, rX9_at_15, rX9_at_18, a1, true_and, rfB g]
    rw [if_neg hki, if_neg (by decide)]
theorem C_of {k x : Int32} (cs : CS w I Q S) : CA w I Q J mX9_of [.ref 1, .int k, .int x, .null] (.int (sp_of k x S).1) (sp_of k x S).2 := by
  obtain ⟨g, hv, π, nx, hp, rc⟩ := id cs
  obtain ⟨⟨a1, a2, a3, a4, a5⟩, b1, ⟨c1, c2, c3, c4, c5, c6⟩, lns, pn, rl, -⟩ := id g
  obtain ⟨r1, r2, r3, r4, r5, r6, r7, r8, r9⟩ := id rc
  have hl10 := hv.2.1.1.1
  unfold sp_of
  by_cases hk : inR k S.2.1.1.length
  · obtain ⟨kk, hkk, rfl⟩ := inR_of (by omega) hk
    have hl30 := hv.2.1.1.2 kk hkk
    have hk10 : kk < 10 := by omega
    have hpk := hp.1 kk hk10
    have lk := lns (π kk) hpk.2
    have hpd := r8 kk hkk
    have hcl := colS_len S kk
    have hpt : ptIs I (6 + 7 * π kk) (colS S kk) := hpd.1
    have hst : stIs I (6 + 7 * π kk + 5) (6 + 7 * π kk + 6) (endS S kk) := hpd.2.1
    have hsv : stV (endS S kk) := stAt_ok _ _ _
    have hd : ∀ {K : Option Value → WS → HS → Prop}, WP mX9_of 0 [.ref 1, .int (nI kk), .int x, .null] [] w (I, Q, J) K ↔ WP mX9_of 29 [.ref 1, .int (nI kk), .int x, .ref (6 + 7 * π kk)] [.int x] w (I, Q, J) K := by
      intro K
      simp only [rX9_of_0, rX9_of_1, rX9_of_4, rX9_of_5, rX9_of_8, rX9_of_11, rX9_of_12, rX9_of_14, rX9_of_17, rX9_of_18, rX9_of_19, rX9_of_22, rX9_of_25, rX9_of_26, rX9_of_27, rX9_of_28, a1, a3, rf_some, c1, true_and]
      rw [c_hasLine g r2.1 hl10]
      simp only [tl_some, rX9_of_0, rX9_of_1, rX9_of_4, rX9_of_5, rX9_of_8, rX9_of_11, rX9_of_12, rX9_of_14, rX9_of_17, rX9_of_18, rX9_of_19, rX9_of_22, rX9_of_25, rX9_of_26, rX9_of_27, rX9_of_28, a1, a3, c1, c2, c6, rf_some, true_and, true_or, vin_nI hk10 (by decide), nI_clamp (show kk < 2 ^ 31 by omega), hpk.1]
      rw [if_pos hk, if_pos (by decide)]
    by_cases hx : inR x 6
    · rw [if_neg (fun z => z ⟨hk, hx⟩)]
      obtain ⟨xx, hxx, rfl⟩ := inR_of (by decide) hx
      refine CA.same cs (fun K => ?_)
      dsimp only
      rw [hd, nI_clamp (show xx < 2 ^ 31 by omega), nI_clamp (show kk < 2 ^ 31 by omega)]
      rcases (show xx = 0 ∨ xx = 1 ∨ xx = 2 ∨ xx = 3 ∨ xx = 4 ∨ xx = 5 by omega) with rfl | rfl | rfl | rfl | rfl | rfl
      · simp only [show nI 0 = 0 from rfl]
        simp only [rX9_of_29_0, rX9_of_29_1, rX9_of_29_2, rX9_of_29_3, rX9_of_29_4, rX9_of_29_5, rX9_of_68, rX9_of_69, rX9_of_72, rX9_of_75, rX9_of_76, rX9_of_77, rX9_of_80, rX9_of_81, rX9_of_82, rX9_of_85, rX9_of_88, rX9_of_89, rX9_of_90, rX9_of_93, rX9_of_96, rX9_of_97, rX9_of_98, rX9_of_101, rX9_of_104, rX9_of_105, rX9_of_106, rX9_of_109, rX9_of_112, rX9_of_113, rX9_of_114, rX9_of_116, rX9_of_119, lk.1, lk.2.1, rf_some, true_and, lk.2.2.2.2.2.1.1, (r2.2 kk hkk).1]
        rfl
      · simp only [show nI 1 = 1 from rfl]
        simp only [rX9_of_29_0, rX9_of_29_1, rX9_of_29_2, rX9_of_29_3, rX9_of_29_4, rX9_of_29_5, rX9_of_68, rX9_of_69, rX9_of_72, rX9_of_75, rX9_of_76, rX9_of_77, rX9_of_80, rX9_of_81, rX9_of_82, rX9_of_85, rX9_of_88, rX9_of_89, rX9_of_90, rX9_of_93, rX9_of_96, rX9_of_97, rX9_of_98, rX9_of_101, rX9_of_104, rX9_of_105, rX9_of_106, rX9_of_109, rX9_of_112, rX9_of_113, rX9_of_114, rX9_of_116, rX9_of_119, lk.1, true_and]
        rw [c_countSpans lk (r2.2 kk hkk) hl30 hcl hpt]
        simp only [tl_some, rX9_of_29_0, rX9_of_29_1, rX9_of_29_2, rX9_of_29_3, rX9_of_29_4, rX9_of_29_5, rX9_of_68, rX9_of_69, rX9_of_72, rX9_of_75, rX9_of_76, rX9_of_77, rX9_of_80, rX9_of_81, rX9_of_82, rX9_of_85, rX9_of_88, rX9_of_89, rX9_of_90, rX9_of_93, rX9_of_96, rX9_of_97, rX9_of_98, rX9_of_101, rX9_of_104, rX9_of_105, rX9_of_106, rX9_of_109, rX9_of_112, rX9_of_113, rX9_of_114, rX9_of_116, rX9_of_119]
        rfl
      · simp only [show nI 2 = 2 from rfl]
        simp only [rX9_of_29_0, rX9_of_29_1, rX9_of_29_2, rX9_of_29_3, rX9_of_29_4, rX9_of_29_5, rX9_of_68, rX9_of_69, rX9_of_72, rX9_of_75, rX9_of_76, rX9_of_77, rX9_of_80, rX9_of_81, rX9_of_82, rX9_of_85, rX9_of_88, rX9_of_89, rX9_of_90, rX9_of_93, rX9_of_96, rX9_of_97, rX9_of_98, rX9_of_101, rX9_of_104, rX9_of_105, rX9_of_106, rX9_of_109, rX9_of_112, rX9_of_113, rX9_of_114, rX9_of_116, rX9_of_119, lk.1, lk.2.2.2.2.1, rf_some, true_and, lk.2.2.2.2.2.2.2.2.1, hst.1]
        rfl
      · simp only [show nI 3 = 3 from rfl]
        simp only [rX9_of_29_0, rX9_of_29_1, rX9_of_29_2, rX9_of_29_3, rX9_of_29_4, rX9_of_29_5, rX9_of_68, rX9_of_69, rX9_of_72, rX9_of_75, rX9_of_76, rX9_of_77, rX9_of_80, rX9_of_81, rX9_of_82, rX9_of_85, rX9_of_88, rX9_of_89, rX9_of_90, rX9_of_93, rX9_of_96, rX9_of_97, rX9_of_98, rX9_of_101, rX9_of_104, rX9_of_105, rX9_of_106, rX9_of_109, rX9_of_112, rX9_of_113, rX9_of_114, rX9_of_116, rX9_of_119, lk.1, lk.2.2.2.2.1, rf_some, true_and, lk.2.2.2.2.2.2.2.2.1]
        rw [c_mode lk.2.2.2.2.2.2.2.2 hst hsv]
        simp only [tl_some, rX9_of_29_0, rX9_of_29_1, rX9_of_29_2, rX9_of_29_3, rX9_of_29_4, rX9_of_29_5, rX9_of_68, rX9_of_69, rX9_of_72, rX9_of_75, rX9_of_76, rX9_of_77, rX9_of_80, rX9_of_81, rX9_of_82, rX9_of_85, rX9_of_88, rX9_of_89, rX9_of_90, rX9_of_93, rX9_of_96, rX9_of_97, rX9_of_98, rX9_of_101, rX9_of_104, rX9_of_105, rX9_of_106, rX9_of_109, rX9_of_112, rX9_of_113, rX9_of_114, rX9_of_116, rX9_of_119]
        rfl
      · simp only [show nI 4 = 4 from rfl]
        simp only [rX9_of_29_0, rX9_of_29_1, rX9_of_29_2, rX9_of_29_3, rX9_of_29_4, rX9_of_29_5, rX9_of_68, rX9_of_69, rX9_of_72, rX9_of_75, rX9_of_76, rX9_of_77, rX9_of_80, rX9_of_81, rX9_of_82, rX9_of_85, rX9_of_88, rX9_of_89, rX9_of_90, rX9_of_93, rX9_of_96, rX9_of_97, rX9_of_98, rX9_of_101, rX9_of_104, rX9_of_105, rX9_of_106, rX9_of_109, rX9_of_112, rX9_of_113, rX9_of_114, rX9_of_116, rX9_of_119, lk.1, lk.2.2.2.2.1, rf_some, true_and, lk.2.2.2.2.2.2.2.2.1]
        rw [c_quote lk.2.2.2.2.2.2.2.2 hst hsv]
        simp only [tl_some, rX9_of_29_0, rX9_of_29_1, rX9_of_29_2, rX9_of_29_3, rX9_of_29_4, rX9_of_29_5, rX9_of_68, rX9_of_69, rX9_of_72, rX9_of_75, rX9_of_76, rX9_of_77, rX9_of_80, rX9_of_81, rX9_of_82, rX9_of_85, rX9_of_88, rX9_of_89, rX9_of_90, rX9_of_93, rX9_of_96, rX9_of_97, rX9_of_98, rX9_of_101, rX9_of_104, rX9_of_105, rX9_of_106, rX9_of_109, rX9_of_112, rX9_of_113, rX9_of_114, rX9_of_116, rX9_of_119]
        rfl
      · simp only [show nI 5 = 5 from rfl]
        simp only [rX9_of_29_0, rX9_of_29_1, rX9_of_29_2, rX9_of_29_3, rX9_of_29_4, rX9_of_29_5, rX9_of_68, rX9_of_69, rX9_of_72, rX9_of_75, rX9_of_76, rX9_of_77, rX9_of_80, rX9_of_81, rX9_of_82, rX9_of_85, rX9_of_88, rX9_of_89, rX9_of_90, rX9_of_93, rX9_of_96, rX9_of_97, rX9_of_98, rX9_of_101, rX9_of_104, rX9_of_105, rX9_of_106, rX9_of_109, rX9_of_112, rX9_of_113, rX9_of_114, rX9_of_116, rX9_of_119, lk.1, lk.2.2.2.2.1, rf_some, true_and, lk.2.2.2.2.2.2.2.2.1, hst.2.1]
        rfl
    · rw [if_pos (fun z => hx z.2)]
      refine CA.bad cs (fun K => ?_)
      have ho := outR (by decide) hx
      rw [hd, rX9_of_29_d (by omega)]
      simp only [rX9_of_29_0, rX9_of_29_1, rX9_of_29_2, rX9_of_29_3, rX9_of_29_4, rX9_of_29_5, rX9_of_68, rX9_of_69, rX9_of_72, rX9_of_75, rX9_of_76, rX9_of_77, rX9_of_80, rX9_of_81, rX9_of_82, rX9_of_85, rX9_of_88, rX9_of_89, rX9_of_90, rX9_of_93, rX9_of_96, rX9_of_97, rX9_of_98, rX9_of_101, rX9_of_104, rX9_of_105, rX9_of_106, rX9_of_109, rX9_of_112, rX9_of_113, rX9_of_114, rX9_of_116, rX9_of_119, a1, true_and, rfB g, tl_some]
  · rw [if_pos (fun z => hk z.1)]
    refine CA.bad cs (fun K => ?_)
    simp only [rX9_of_0, rX9_of_1, rX9_of_4, rX9_of_5, rX9_of_8, rX9_of_11, rX9_of_12, rX9_of_14, rX9_of_17, rX9_of_18, rX9_of_19, rX9_of_22, rX9_of_25, rX9_of_26, rX9_of_27, rX9_of_28, a1, a3, rf_some, c1, true_and]
    rw [c_hasLine g r2.1 hl10]
    simp only [tl_some, rX9_of_0, rX9_of_1, rX9_of_4, rX9_of_5, rX9_of_8, rX9_of_11, rX9_of_12, rX9_of_14, rX9_of_17, a1, true_and, rfB g]
    rw [if_neg hk, if_neg (by decide)]
theorem C_span {k i x : Int32} (cs : CS w I Q S) : CA w I Q J mX9_span [.ref 1, .int k, .int i, .int x, .null, .null] (.int (sp_span k i x S).1) (sp_span k i x S).2 := by
  obtain ⟨g, hv, π, nx, hp, rc⟩ := id cs
  obtain ⟨⟨a1, a2, a3, a4, a5⟩, b1, ⟨c1, c2, c3, c4, c5, c6⟩, lns, pn, rl, -⟩ := id g
  obtain ⟨r1, r2, r3, r4, r5, r6, r7, r8, r9⟩ := id rc
  have hl10 := hv.2.1.1.1
  unfold sp_span
  have hx3 : ∀ y : Int32, inR y 3 ↔ ¬ y < 0 ∧ y ≤ 2 := by
    intro y
    constructor
    · rintro ⟨q1, q2⟩
      obtain ⟨j, hj, rfl⟩ := inR_of (by decide) ⟨q1, q2⟩
      exact ⟨q1, nI_le (show j ≤ 2 by omega) (by decide)⟩
    · rintro ⟨q1, q2⟩
      refine ⟨q1, fun z => ?_⟩
      obtain ⟨j, hj, rfl⟩ := nI_of q1
      have h1 := (nI_leI (a := 3) (by decide) hj).mp z
      have h2 := (nI_leI hj (b := 2) (by decide)).mp q2
      omega
  by_cases hk : inR k S.2.1.1.length
  · by_cases hi : i < 0
    · rw [if_pos (fun z => z.2.1 hi)]
      refine CA.bad cs (fun K => ?_)
      simp only [rX9_span_0, rX9_span_1, rX9_span_4, rX9_span_5, a1, a3, rf_some, c1, true_and]
      rw [c_hasLine g r2.1 hl10, if_pos hk]
      simp only [tl_some, rX9_span_8, rX9_span_11, rX9_span_12, rX9_span_15, rX9_span_16, rX9_span_19, rX9_span_20, rX9_span_21, rX9_span_24, rX9_span_25, rX9_span_27, rX9_span_30, a1, true_and, rfB g]
      rw [if_neg (by decide), if_pos hi]
    · by_cases hx : inR x 3
      · rw [if_neg (fun z => z ⟨hk, hi, hx⟩)]
        obtain ⟨kk, hkk, rfl⟩ := inR_of (by omega) hk
        obtain ⟨ii, hii, rfl⟩ := nI_of hi
        obtain ⟨xx, hxx, rfl⟩ := inR_of (by decide) hx
        have hl30 := hv.2.1.1.2 kk hkk
        have hk10 : kk < 10 := by omega
        have hpk := hp.1 kk hk10
        have lk := lns (π kk) hpk.2
        have hpd := r8 kk hkk
        have hcl := colS_len S kk
        have hpt : ptIs I (6 + 7 * π kk) (colS S kk) := hpd.1
        refine CA.same cs (fun K => ?_)
        dsimp only
        rw [nI_clamp (show xx < 2 ^ 31 by omega), nI_clamp (show kk < 2 ^ 31 by omega), nI_clamp hii]
        simp only [rX9_span_0, rX9_span_1, rX9_span_4, rX9_span_5, a1, a3, rf_some, c1, true_and]
        rw [c_hasLine g r2.1 hl10, if_pos hk]
        simp only [tl_some, rX9_span_8, rX9_span_11, rX9_span_12, rX9_span_15, rX9_span_16, rX9_span_19, rX9_span_20, rX9_span_21, rX9_span_24, rX9_span_25, rX9_span_27, rX9_span_30, rX9_span_31, rX9_span_32, rX9_span_35, rX9_span_38, rX9_span_39, rX9_span_40, rX9_span_42, rX9_span_44, rX9_span_45, a1, a3, c1, c2, c6, rf_some, true_and, true_or, vin_nI hk10 (by decide), nI_clamp (show kk < 2 ^ 31 by omega), hpk.1, lk.1]
        rw [if_neg (by decide), if_neg hi, if_neg ((hx3 _).mp hx).1, if_pos ((hx3 _).mp hx).2]
        rw [c_beginOfSpan (nI_toInt hii) lk (r2.2 kk hkk) hl30 hcl hpt]
        simp only [tl_some, rX9_span_48, rX9_span_50, rX9_span_52, rX9_span_53, rX9_span_56, rX9_span_57, rX9_span_58]
        unfold spanV
        cases hf : fndF (begC (colS S kk)) (S.2.1.1.getD kk []).length 0 ii with
        | none =>
          rw [if_neg (show ¬ ¬ optI none = -1 from fun z => z rfl)]
        | some b =>
          have hb : b < (S.2.1.1.getD kk []).length := by
            have : ∀ n i d b, fndF (begC (colS S kk)) n i d = some b → b < n + i := by
              intro n
              induction n with
              | zero => intro i d b h; cases h
              | succ n ih =>
                intro i d b h
                simp only [fndF] at h
                split at h
                · split at h
                  · cases h; omega
                  · have := ih _ _ _ h; omega
                · have := ih _ _ _ h; omega
            exact this _ _ _ _ hf
          rw [if_pos (show ¬ optI (some b) = -1 from fun z => nI_pos (show b < 2 ^ 31 by omega) (by rw [show nI b = -1 from z]; decide))]
          rw [show optI (some b) = nI b from rfl]
          rcases (show xx = 0 ∨ xx = 1 ∨ xx = 2 by omega) with rfl | rfl | rfl
          · simp only [show nI 0 = 0 from rfl, rX9_span_59_0, rX9_span_59_1, rX9_span_84, rX9_span_86, rX9_span_87, rX9_span_89, rX9_span_91, rX9_span_94, rX9_span_96, rX9_span_97, rX9_span_98, rX9_span_100, rX9_span_103, rX9_span_105, rX9_span_106]
            rfl
          · simp only [show nI 1 = 1 from rfl, rX9_span_59_0, rX9_span_59_1, rX9_span_84, rX9_span_86, rX9_span_87, rX9_span_89, rX9_span_91, rX9_span_94, rX9_span_96, rX9_span_97, rX9_span_98, rX9_span_100, rX9_span_103, rX9_span_105, rX9_span_106, lk.1, true_and]
            rw [c_endOfSpan lk (r2.2 kk hkk) hl30 hcl hpt hb]
            have hle : b ≤ endF (begC (colS S kk)) ((S.2.1.1.getD kk []).length - (b + 1)) (b + 1) := by
              have : ∀ n i, i ≤ endF (begC (colS S kk)) n i := by
                intro n
                induction n with
                | zero => intro i; exact Nat.le_refl _
                | succ n ih =>
                  intro i
                  simp only [endF]
                  split
                  · exact Nat.le_refl _
                  · have := ih (i + 1); omega
              have := this ((S.2.1.1.getD kk []).length - (b + 1)) (b + 1)
              omega
            simp only [tl_some, rX9_span_59_0, rX9_span_59_1, rX9_span_84, rX9_span_86, rX9_span_87, rX9_span_89, rX9_span_91, rX9_span_94, rX9_span_96, rX9_span_97, rX9_span_98, rX9_span_100, rX9_span_103, rX9_span_105, rX9_span_106, pk_sub hle]
            rfl
          · rw [show nI 2 = (2 : Int32) from rfl, rX9_span_59_d (by decide)]
            simp only [rX9_span_98, rX9_span_100, rX9_span_103, rX9_span_105, rX9_span_106, lk.1, lk.2.2.1, rf_some, true_and, lk.2.2.2.2.2.2.1, vin_nI (show b < 30 by omega) (by decide), nI_clamp (show b < 2 ^ 31 by omega), (hpt b (by omega)).1]
            rfl
      · rw [if_pos (fun z => hx z.2.2)]
        refine CA.bad cs (fun K => ?_)
        simp only [rX9_span_0, rX9_span_1, rX9_span_4, rX9_span_5, a1, a3, rf_some, c1, true_and]
        rw [c_hasLine g r2.1 hl10, if_pos hk]
        simp only [tl_some, rX9_span_8, rX9_span_11, rX9_span_12, rX9_span_15, rX9_span_16, rX9_span_19, rX9_span_20, rX9_span_21, rX9_span_24, rX9_span_25, rX9_span_27, rX9_span_30, a1, true_and, rfB g]
        rw [if_neg (by decide), if_neg hi]
        by_cases q1 : x < 0
        · rw [if_pos q1]
        · rw [if_neg q1, if_neg (fun z => hx ((hx3 x).mpr ⟨q1, z⟩))]
  · rw [if_pos (fun z => hk z.1)]
    refine CA.bad cs (fun K => ?_)
    simp only [rX9_span_0, rX9_span_1, rX9_span_4, rX9_span_5, a1, a3, rf_some, c1, true_and]
    rw [c_hasLine g r2.1 hl10, if_neg hk]
    simp only [tl_some, rX9_span_8, rX9_span_11, rX9_span_12, rX9_span_15, rX9_span_16, rX9_span_19, rX9_span_20, rX9_span_21, rX9_span_24, rX9_span_25, rX9_span_27, rX9_span_30, a1, true_and, rfB g, if_true]
theorem C_painted_loop {x : Int32} (cs : CS w I Q S) {K : Option Value → WS → HS → Prop} : ∀ n k s, n + k = S.2.1.1.length → s ≤ 30 * k → (WP mX9_painted 21 [.ref 1, .int x, .int (nI s), .int (nI k)] [] w (I, Q, J) K ↔ K (some (.int (nI (s + ptdF S x n k)))) w (I, Q, J)) := by
  obtain ⟨g, hv, π, nx, hp, rc⟩ := id cs
  obtain ⟨⟨a1, a2, a3, a4, a5⟩, b1, ⟨c1, c2, c3, c4, c5, c6⟩, lns, pn, rl, -⟩ := id g
  obtain ⟨r1, r2, r3, r4, r5, r6, r7, r8, r9⟩ := id rc
  have hl10 := hv.2.1.1.1
  intro n
  induction n with
  | zero =>
    intro k s hn hs
    rw [rX9_painted_21]
    simp only [rX9_painted_22, rX9_painted_23, rX9_painted_26, rX9_painted_29, a1, a3, rf_some, c1, r2.1, true_and]
    rw [if_pos (nI_le (show S.2.1.1.length ≤ k by omega) (by omega))]
    simp only [rX9_painted_54, rX9_painted_55]
    rfl
  | succ n ih =>
    intro k s hn hs
    have hkk : k < S.2.1.1.length := by omega
    have hk10 : k < 10 := by omega
    have hl30 := hv.2.1.1.2 k hkk
    have hpk := hp.1 k hk10
    have lk := lns (π k) hpk.2
    have hpt : ptIs I (6 + 7 * π k) (colS S k) := (r8 k hkk).1
    have hle := cntF_le (fun j => ((colS S k).getD j (0, 0)).1 == x) (S.2.1.1.getD k []).length 0
    rw [rX9_painted_21]
    simp only [rX9_painted_22, rX9_painted_23, rX9_painted_26, rX9_painted_29, rX9_painted_32, rX9_painted_33, rX9_painted_34, rX9_painted_37, rX9_painted_40, rX9_painted_41, rX9_painted_42, rX9_painted_43, a1, a3, c1, c2, c6, rf_some, r2.1, true_and, true_or, vin_nI hk10 (by decide), nI_clamp (show k < 2 ^ 31 by omega), hpk.1, lk.1]
    rw [if_neg (nI_ge hkk (by omega)), c_countBytes lk (r2.2 k hkk) hl30 (colS_len S k) hpt]
    simp only [tl_some, rX9_painted_46, rX9_painted_47, rX9_painted_48, rX9_painted_51, nI_add, nI_1]
    rw [ih (k + 1) _ (by omega) (by omega)]
    simp only [ptdF, Nat.add_assoc]
theorem C_painted {x : Int32} (cs : CS w I Q S) : CA w I Q J mX9_painted [.ref 1, .int x, .null, .null] (.int (sp_painted x S).1) (sp_painted x S).2 := by
  obtain ⟨g, hv, π, nx, hp, rc⟩ := id cs
  obtain ⟨⟨a1, a2, a3, a4, a5⟩, b1, -⟩ := id g
  unfold sp_painted
  by_cases hx : inR x 8
  · rw [if_neg (fun z => z hx)]
    refine CA.same cs (fun K => ?_)
    have h8 : x < 8 := by
      obtain ⟨j, hj, rfl⟩ := inR_of (by decide) hx
      exact nI_lt hj (by decide)
    simp only [rX9_painted_0, rX9_painted_1, rX9_painted_4, rX9_painted_5, rX9_painted_7, rX9_painted_10, rX9_painted_11, rX9_painted_13, rX9_painted_16, rX9_painted_17, rX9_painted_18, rX9_painted_19, rX9_painted_20]
    rw [if_neg hx.1, if_pos h8]
    have := C_painted_loop (K := K) (J := J) (x := x) cs S.2.1.1.length 0 0 (by omega) (by omega)
    rw [nI_0, Nat.zero_add] at this
    exact this
  · rw [if_pos hx]
    refine CA.bad cs (fun K => ?_)
    simp only [rX9_painted_0, rX9_painted_1, rX9_painted_4, rX9_painted_5, rX9_painted_7, rX9_painted_10, rX9_painted_11, rX9_painted_13, rX9_painted_16, a1, true_and, rfB g, tl_some]
    by_cases q : x < 0
    · rw [if_pos q]
    · rw [if_neg q, if_neg (show ¬ x < 8 from fun z => hx ⟨q, Int32.not_le.mpr z⟩)]
end C2
