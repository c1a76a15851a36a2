/-! ===== the class's calls: the text; refusals; questions ===== -/
section C1
variable {w : WS} {I : Nat → Nat → Int32} {Q : Nat → Nat → Option Nat} {J : Nat → Nat → Int64} {S : SP}
/-- all but the text's cells is as it was -/
theorem RC.txt {I' : Nat → Nat → Int32} {π : Nat → Nat} {nx : Nat} {T : List Int32} (rc : RC I π nx S) (hv : SV S) (hp : ∀ k, k < 10 → π k < 10) (ht : rowIs I' 2 3 T) (e : Fr (fun c => c = 2 ∨ c = 3) I I') : RC I' π nx (T, S.2) := by
  obtain ⟨r1, r2, r3, r4, r5, r6, r7, r8, r9⟩ := rc
  have e : ∀ z, z ≠ 2 → z ≠ 3 → I' z = I z := fun z q q2 => e z (by omega)
  have hl10 := hv.2.1.1.1
  refine ⟨ht, ⟨by rw [e 4 (by omega) (by omega)]; exact r2.1, fun k hk => (r2.2 k hk).fr (e _ (by omega) (by omega)) (e _ (by omega) (by omega))⟩, r3.fr hv.2.1.2.1.1 (e _ (by omega) (by omega)) (fun c _ _ => e c (by omega) (by omega)), r4.fr (e _ (by omega) (by omega)) (e _ (by omega) (by omega)) (e _ (by omega) (by omega)), ⟨by rw [e 92 (by omega) (by omega)]; exact r5.1, by rw [e 92 (by omega) (by omega)]; exact r5.2.1, r5.2.2.1, fun d hd => (r5.2.2.2 d hd).fr (hv.2.2.1.2 d hd) (fun c _ _ => e c (by omega) (by omega))⟩, by rw [e 1 (by omega) (by omega)]; exact r6, by rw [e 269 (by omega) (by omega)]; exact r7, fun k hk => (r8 k hk).fr (fun c _ _ => e c (by omega) (by omega)), r9.fr (fun c _ _ => e c (by omega) (by omega))⟩
theorem C_type {c : Int32} (cs : CS w I Q S) : CA w I Q J mX9_type [.ref 1, .int c] (.int (sp_type c S).1) (sp_type c S).2 := by
  obtain ⟨g, hv, π, nx, hp, rc⟩ := id cs
  obtain ⟨⟨a1, a2, a3, a4, a5⟩, b1, -⟩ := id g
  have h30 := hv.1
  unfold sp_type
  by_cases hb : byI c
  · rw [if_neg (fun z => z hb)]
    by_cases hf : 30 ≤ S.1.length
    · rw [if_pos hf]
      refine CA.full cs (fun K => ?_)
      simp only [rX9_type_0, rX9_type_1, rX9_type_4, rX9_type_7, rX9_type_8, rX9_type_10, rX9_type_13, rX9_type_14, rX9_type_15, rX9_type_18, rX9_type_21, rX9_type_23, rX9_type_26, rX9_type_27, rX9_type_29, rX9_type_32, rX9_type_33, rX9_type_34, rX9_type_37, rX9_type_38, rX9_type_41, rX9_type_44, rX9_type_45, rX9_type_48, rX9_type_49, rX9_type_52, rX9_type_55, c_isByte, tl_some, a1, a2, rf_some, b1.1, rc.1.1, true_and, rfF g]
      rw [if_pos hb, if_pos (by decide), if_neg (show ¬ nI S.1.length < 30 from nI_nlt (show 30 ≤ S.1.length by omega) (by omega))]
    · rw [if_neg hf]
      obtain ⟨I', f1, f2, f3⟩ := c_rowPut (J := J) (i := S.1.length) (c := c) b1 rc.1 (Nat.le_refl _) (by omega)
      have f1' : rowIs I' 2 3 (S.1 ++ [c]) := by simpa using f1
      refine ⟨I', Q, ⟨g, ⟨by simp; omega, hv.2⟩, π, nx, hp, rc.txt hv (fun k hk => (hp.1 k hk).2) f1' f2⟩, f2.wk (fun c z => by omega), fun _ _ => rfl, fun K => ?_⟩
      have el : I' 2 1 = nI (S.1.length + 1) := by rw [f1'.1]; simp
      simp only [rX9_type_0, rX9_type_1, rX9_type_4, rX9_type_7, rX9_type_8, rX9_type_10, rX9_type_13, rX9_type_14, rX9_type_15, rX9_type_18, rX9_type_21, rX9_type_23, rX9_type_26, rX9_type_27, rX9_type_29, rX9_type_32, rX9_type_33, rX9_type_34, rX9_type_37, rX9_type_38, rX9_type_41, rX9_type_44, rX9_type_45, rX9_type_48, rX9_type_49, rX9_type_52, rX9_type_55, c_isByte, tl_some, a1, a2, rf_some, b1.1, rc.1.1, true_and]
      rw [if_pos hb, if_pos (by decide), if_pos (show nI S.1.length < 30 from nI_lt (show S.1.length < 30 by omega) (by decide)), f3]
      simp only [tl_none, rX9_type_0, rX9_type_1, rX9_type_4, rX9_type_7, rX9_type_8, rX9_type_10, rX9_type_13, rX9_type_14, rX9_type_15, rX9_type_18, rX9_type_21, rX9_type_23, rX9_type_26, rX9_type_27, rX9_type_29, rX9_type_32, rX9_type_33, rX9_type_34, rX9_type_37, rX9_type_38, rX9_type_41, rX9_type_44, rX9_type_45, rX9_type_48, rX9_type_49, rX9_type_52, rX9_type_55, a1, a2, rf_some, b1.1, true_and, el]
  · rw [if_pos hb]
    refine CA.bad cs (fun K => ?_)
    simp only [rX9_type_0, rX9_type_1, rX9_type_4, rX9_type_7, rX9_type_8, rX9_type_10, rX9_type_13, rX9_type_14, rX9_type_15, rX9_type_18, rX9_type_21, rX9_type_23, rX9_type_26, rX9_type_27, rX9_type_29, rX9_type_32, rX9_type_33, rX9_type_34, rX9_type_37, rX9_type_38, rX9_type_41, rX9_type_44, rX9_type_45, rX9_type_48, rX9_type_49, rX9_type_52, rX9_type_55, c_isByte, tl_some, a1, true_and, rfB g]
    rw [if_neg hb, if_neg (by decide)]
theorem C_clear (cs : CS w I Q S) : CA w I Q J mX9_clear [.ref 1, .null] (.int (sp_clear S).1) (sp_clear S).2 := by
  obtain ⟨g, hv, π, nx, hp, rc⟩ := id cs
  obtain ⟨⟨a1, a2, a3, a4, a5⟩, b1, -⟩ := id g
  refine ⟨u2 I 2 1 0, Q, ⟨g, ⟨by simp [sp_clear], hv.2⟩, π, nx, hp, rc.txt hv (fun k hk => (hp.1 k hk).2) ⟨u2_same, fun j hj => by simp at hj⟩ (Fr_u2.wk (fun c z => Or.inl z))⟩, Fr_u2.wk (fun c z => by omega), fun _ _ => rfl, fun K => ?_⟩
  simp only [rX9_clear_0, rX9_clear_1, rX9_clear_4, rX9_clear_7, rX9_clear_8, rX9_clear_9, rX9_clear_12, rX9_clear_13, rX9_clear_16, rX9_clear_17, a1, a2, rf_some, b1.1, rc.1.1, true_and]
  rfl
theorem C_anew (cs : CS w I Q S) : CA w I Q J mX9_anew [.ref 1] (.int (sp_anew S).1) (sp_anew S).2 := by
  obtain ⟨g, hv, π, nx, hp, rc⟩ := id cs
  refine CA.same cs (fun K => ?_)
  simp only [rX9_anew_0, rX9_anew_1, rX9_anew_4, g.1.1, true_and, rc.2.2.2.2.2.1]
  rfl
theorem inR_cases {x : Int32} {n : Nat} (hn : n < 2 ^ 31) (h : inR x n) : ∃ j, j < n ∧ x = nI j := inR_of hn h
theorem C_told {x : Int32} (cs : CS w I Q S) : CA w I Q J mX9_told [.ref 1, .int x] (.int (sp_told x S).1) (sp_told x S).2 := by
  obtain ⟨g, hv, π, nx, hp, rc⟩ := id cs
  obtain ⟨⟨a1, a2, a3, a4, a5⟩, b1, ⟨c1, c2, c3, c4, c5, c6⟩, -, pn, rl, ⟨h1, h2, h3, h4⟩, z9⟩ := id g
  obtain ⟨r1, r2, r3, r4, r5, r6, r7, r8, r9⟩ := id rc
  unfold sp_told
  by_cases hx : inR x 8
  · rw [if_neg (fun z => z hx)]
    obtain ⟨j, hj, rfl⟩ := inR_of (by decide) hx
    refine CA.same cs (fun K => ?_)
    dsimp only
    rw [nI_clamp (by omega)]
    have v0 : ∀ i, i < 3 → vin (nI i) 3 := fun i hi => vin_nI hi (by decide)
    rcases (show j = 0 ∨ j = 1 ∨ j = 2 ∨ j = 3 ∨ j = 4 ∨ j = 5 ∨ j = 6 ∨ j = 7 by omega) with rfl | rfl | rfl | rfl | rfl | rfl | rfl | rfl
    · have v := v0 0 (by decide)
      simp only [show nI 0 = 0 from rfl] at v ⊢
      simp only [rX9_told_0, rX9_told_1_0, rX9_told_1_1, rX9_told_1_2, rX9_told_1_3, rX9_told_1_4, rX9_told_1_5, rX9_told_1_6, rX9_told_1_7, rX9_told_48, rX9_told_49, rX9_told_52, rX9_told_53, rX9_told_54, rX9_told_55, rX9_told_56, rX9_told_59, rX9_told_62, rX9_told_63, rX9_told_64, rX9_told_67, rX9_told_70, rX9_told_71, rX9_told_72, rX9_told_75, rX9_told_78, rX9_told_81, rX9_told_82, rX9_told_83, rX9_told_86, rX9_told_89, rX9_told_92, rX9_told_93, rX9_told_94, rX9_told_97, rX9_told_100, rX9_told_101, rX9_told_102, rX9_told_104, rX9_told_107, a1, a5, z9, rf_some, true_and, v, cl0, r7.1]; rfl
    · have v := v0 1 (by decide)
      simp only [show nI 1 = 1 from rfl] at v ⊢
      simp only [rX9_told_0, rX9_told_1_0, rX9_told_1_1, rX9_told_1_2, rX9_told_1_3, rX9_told_1_4, rX9_told_1_5, rX9_told_1_6, rX9_told_1_7, rX9_told_48, rX9_told_49, rX9_told_52, rX9_told_53, rX9_told_54, rX9_told_55, rX9_told_56, rX9_told_59, rX9_told_62, rX9_told_63, rX9_told_64, rX9_told_67, rX9_told_70, rX9_told_71, rX9_told_72, rX9_told_75, rX9_told_78, rX9_told_81, rX9_told_82, rX9_told_83, rX9_told_86, rX9_told_89, rX9_told_92, rX9_told_93, rX9_told_94, rX9_told_97, rX9_told_100, rX9_told_101, rX9_told_102, rX9_told_104, rX9_told_107, a1, a5, z9, rf_some, true_and, v, cl1, r7.2.1]; rfl
    · have v := v0 2 (by decide)
      simp only [show nI 2 = 2 from rfl] at v ⊢
      simp only [rX9_told_0, rX9_told_1_0, rX9_told_1_1, rX9_told_1_2, rX9_told_1_3, rX9_told_1_4, rX9_told_1_5, rX9_told_1_6, rX9_told_1_7, rX9_told_48, rX9_told_49, rX9_told_52, rX9_told_53, rX9_told_54, rX9_told_55, rX9_told_56, rX9_told_59, rX9_told_62, rX9_told_63, rX9_told_64, rX9_told_67, rX9_told_70, rX9_told_71, rX9_told_72, rX9_told_75, rX9_told_78, rX9_told_81, rX9_told_82, rX9_told_83, rX9_told_86, rX9_told_89, rX9_told_92, rX9_told_93, rX9_told_94, rX9_told_97, rX9_told_100, rX9_told_101, rX9_told_102, rX9_told_104, rX9_told_107, a1, a5, z9, rf_some, true_and, v, show (2 : Int32).toNatClampNeg = 2 by decide, r7.2.2]; rfl
    · simp only [show nI 3 = 3 from rfl]
      simp only [rX9_told_0, rX9_told_1_0, rX9_told_1_1, rX9_told_1_2, rX9_told_1_3, rX9_told_1_4, rX9_told_1_5, rX9_told_1_6, rX9_told_1_7, rX9_told_48, rX9_told_49, rX9_told_52, rX9_told_53, rX9_told_54, rX9_told_55, rX9_told_56, rX9_told_59, rX9_told_62, rX9_told_63, rX9_told_64, rX9_told_67, rX9_told_70, rX9_told_71, rX9_told_72, rX9_told_75, rX9_told_78, rX9_told_81, rX9_told_82, rX9_told_83, rX9_told_86, rX9_told_89, rX9_told_92, rX9_told_93, rX9_told_94, rX9_told_97, rX9_told_100, rX9_told_101, rX9_told_102, rX9_told_104, rX9_told_107, a1, a2, rf_some, true_and, b1.1, r1.1]; rfl
    · simp only [show nI 4 = 4 from rfl]
      simp only [rX9_told_0, rX9_told_1_0, rX9_told_1_1, rX9_told_1_2, rX9_told_1_3, rX9_told_1_4, rX9_told_1_5, rX9_told_1_6, rX9_told_1_7, rX9_told_48, rX9_told_49, rX9_told_52, rX9_told_53, rX9_told_54, rX9_told_55, rX9_told_56, rX9_told_59, rX9_told_62, rX9_told_63, rX9_told_64, rX9_told_67, rX9_told_70, rX9_told_71, rX9_told_72, rX9_told_75, rX9_told_78, rX9_told_81, rX9_told_82, rX9_told_83, rX9_told_86, rX9_told_89, rX9_told_92, rX9_told_93, rX9_told_94, rX9_told_97, rX9_told_100, rX9_told_101, rX9_told_102, rX9_told_104, rX9_told_107, a1, a3, rf_some, true_and, c1, r2.1]; rfl
    · simp only [show nI 5 = 5 from rfl]
      simp only [rX9_told_0, rX9_told_1_0, rX9_told_1_1, rX9_told_1_2, rX9_told_1_3, rX9_told_1_4, rX9_told_1_5, rX9_told_1_6, rX9_told_1_7, rX9_told_48, rX9_told_49, rX9_told_52, rX9_told_53, rX9_told_54, rX9_told_55, rX9_told_56, rX9_told_59, rX9_told_62, rX9_told_63, rX9_told_64, rX9_told_67, rX9_told_70, rX9_told_71, rX9_told_72, rX9_told_75, rX9_told_78, rX9_told_81, rX9_told_82, rX9_told_83, rX9_told_86, rX9_told_89, rX9_told_92, rX9_told_93, rX9_told_94, rX9_told_97, rX9_told_100, rX9_told_101, rX9_told_102, rX9_told_104, rX9_told_107, a1, a3, rf_some, true_and, c1, c3, pn.2.2.2.1, r3.1]; rfl
    · simp only [show nI 6 = 6 from rfl]
      simp only [rX9_told_0, rX9_told_1_0, rX9_told_1_1, rX9_told_1_2, rX9_told_1_3, rX9_told_1_4, rX9_told_1_5, rX9_told_1_6, rX9_told_1_7, rX9_told_48, rX9_told_49, rX9_told_52, rX9_told_53, rX9_told_54, rX9_told_55, rX9_told_56, rX9_told_59, rX9_told_62, rX9_told_63, rX9_told_64, rX9_told_67, rX9_told_70, rX9_told_71, rX9_told_72, rX9_told_75, rX9_told_78, rX9_told_81, rX9_told_82, rX9_told_83, rX9_told_86, rX9_told_89, rX9_told_92, rX9_told_93, rX9_told_94, rX9_told_97, rX9_told_100, rX9_told_101, rX9_told_102, rX9_told_104, rX9_told_107, a1, a3, rf_some, true_and, c1, c4, rl.1, r4.1]; rfl
    · simp only [show nI 7 = 7 from rfl]
      simp only [rX9_told_0, rX9_told_1_0, rX9_told_1_1, rX9_told_1_2, rX9_told_1_3, rX9_told_1_4, rX9_told_1_5, rX9_told_1_6, rX9_told_1_7, rX9_told_48, rX9_told_49, rX9_told_52, rX9_told_53, rX9_told_54, rX9_told_55, rX9_told_56, rX9_told_59, rX9_told_62, rX9_told_63, rX9_told_64, rX9_told_67, rX9_told_70, rX9_told_71, rX9_told_72, rX9_told_75, rX9_told_78, rX9_told_81, rX9_told_82, rX9_told_83, rX9_told_86, rX9_told_89, rX9_told_92, rX9_told_93, rX9_told_94, rX9_told_97, rX9_told_100, rX9_told_101, rX9_told_102, rX9_told_104, rX9_told_107, a1, a4, rf_some, true_and, h1, r5.1]; rfl
  · rw [if_pos hx]
    refine CA.bad cs (fun K => ?_)
    have hout : x.toInt < 0 ∨ 7 < x.toInt := by
      rcases pk_ix x (n := 8) (by decide) with q | q | ⟨j, hj, rfl⟩
      · left; have := Int32.lt_iff_toInt_lt.mp q; simpa using this
      · right; have := Int32.le_iff_toInt_le.mp q; rw [nI_toInt (by decide)] at this; omega
      · exact absurd (inR_lt hj (by decide)) hx
    rw [rX9_told_0, rX9_told_1_d hout]
    simp only [rX9_told_0, rX9_told_1_0, rX9_told_1_1, rX9_told_1_2, rX9_told_1_3, rX9_told_1_4, rX9_told_1_5, rX9_told_1_6, rX9_told_1_7, rX9_told_48, rX9_told_49, rX9_told_52, rX9_told_53, rX9_told_54, rX9_told_55, rX9_told_56, rX9_told_59, rX9_told_62, rX9_told_63, rX9_told_64, rX9_told_67, rX9_told_70, rX9_told_71, rX9_told_72, rX9_told_75, rX9_told_78, rX9_told_81, rX9_told_82, rX9_told_83, rX9_told_86, rX9_told_89, rX9_told_92, rX9_told_93, rX9_told_94, rX9_told_97, rX9_told_100, rX9_told_101, rX9_told_102, rX9_told_104, rX9_told_107, a1, true_and, rfB g, tl_some]
end C1
