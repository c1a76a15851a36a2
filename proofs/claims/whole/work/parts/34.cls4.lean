section C4
variable {w : WS} {I : Nat → Nat → Int32} {Q : Nat → Nat → Option Nat} {J : Nat → Nat → Int64} {S : SP}
/-- the state is kept; nothing else of the page changes -/
theorem C_keep {π : Nat → Nat} {nx : Nat} (g : gOK w Q) (hp : piOK Q π) (rc : RC I π nx S) (hv : SV S) : ∃ I1 nx', hsIs I1 nx' ((S.2.1 :: S.2.2.1).take 5) ∧ Fr (fun c => 92 ≤ c ∧ c < 269) I I1 ∧ ∀ K, (WP mX0_keep 0 [.ref 92, .ref 4] [] w (I, Q, J) K ↔ K none w (I1, Q, J)) := by
  obtain ⟨T, ⟨ls, W, R⟩, H, an, f⟩ := S
  exact c_keep g hp hv.2.1 hv.2.2.1 rc.2.2.2.2.1 rc.2.1 rc.2.2.1 rc.2.2.2.1
theorem C_sets {k : Int32} (cs : CS w I Q S) : CA w I Q J mX9_sets [.ref 1, .int k, .null, .null] (.int (sp_sets k S).1) (sp_sets k S).2 := by
  obtain ⟨g, hv, π, nx, hp, rc⟩ := id cs
  obtain ⟨⟨a1, a2, a3, a4, a5⟩, b1, ⟨c1, c2, c3, c4, c5, c6⟩, lns, pn, rl, ⟨h1, h2, h3, h4⟩, -⟩ := id g
  obtain ⟨r1, r2, r3, r4, r5, r6, r7, r8, r9⟩ := id rc
  have hl10 := hv.2.1.1.1
  unfold sp_sets
  by_cases hk : inR k S.2.1.1.length
  · rw [if_neg (fun z => z hk)]
    obtain ⟨kk, hkk, rfl⟩ := inR_of (by omega) hk
    rw [nI_clamp (show kk < 2 ^ 31 by omega)]
    have hl30 := hv.2.1.1.2 kk hkk
    have hT30 := hv.1
    have hk10 : kk < 10 := by omega
    have hpk := hp.1 kk hk10
    have lk := lns (π kk) hpk.2
    obtain ⟨I1, nx', q1, q2, q3⟩ := C_keep (J := J) g hp rc hv
    have e1 : ∀ c, (c < 92 ∨ 269 ≤ c) → I1 c = I c := fun c q => q2 c (by omega)
    have hrow : rowIs I1 (6 + 7 * π kk + 1) (6 + 7 * π kk + 2) (S.2.1.1.getD kk []) := (r2.2 kk hkk).fr (e1 _ (by omega)) (e1 _ (by omega))
    have htx : rowIs I1 2 3 S.1 := r1.fr (e1 _ (by omega)) (e1 _ (by omega))
    have hd : ∀ {K : Option Value → WS → HS → Prop}, WP mX9_sets 0 [.ref 1, .int (nI kk), .null, .null] [] w (I, Q, J) K ↔ WP mX9_sets 55 [.ref 1, .int (nI kk), .ref (6 + 7 * π kk + 1), .int (nI (S.2.1.1.getD kk []).length)] [.int (if S.2.1.1.getD kk [] = S.1 then 1 else 0)] w (I1, Q, J) K := by
      intro K
      simp only [rX9_sets_0, rX9_sets_1, rX9_sets_4, rX9_sets_5, a1, a3, rf_some, c1, true_and]
      rw [c_hasLine g r2.1 hl10, if_pos hk]
      simp only [tl_some, rX9_sets_8, rX9_sets_11, rX9_sets_12, rX9_sets_14, rX9_sets_17, rX9_sets_18, rX9_sets_19, rX9_sets_22, rX9_sets_23, rX9_sets_26, a1, a3, a4, rf_some, h1, true_and]
      rw [if_pos (by decide), q3]
      simp only [tl_none, rX9_sets_29, rX9_sets_30, rX9_sets_33, rX9_sets_36, rX9_sets_37, rX9_sets_38, rX9_sets_41, rX9_sets_42, rX9_sets_43, rX9_sets_46, rX9_sets_47, rX9_sets_48, rX9_sets_49, rX9_sets_52, a1, a2, a3, c1, c2, c6, rf_some, true_and, true_or, vin_nI hk10 (by decide), nI_clamp (show kk < 2 ^ 31 by omega), hpk.1, lk.1, lk.2.1, lk.2.2.2.2.2.1.1, hrow.1]
      rw [c_rowLike lk.2.2.2.2.2.1 hrow hl30 b1 htx hT30]
      simp only [tl_some]
    by_cases he : S.2.1.1.getD kk [] = S.1
    · rw [if_pos he]
      refine ⟨u2 I1 1 4 (nI 0), Q, ⟨g, hv.ch hv.2.1 (by omega), π, nx', hp, ?_⟩, Fr.tr q2 Fr_u2 (fun c z => by omega) (fun c z => by omega), fun _ _ => rfl, fun K => ?_⟩
      · refine rc.chg (I2 := I1) (I3 := I1) hv (fun k hk => (hp.1 k hk).2) q1 q2 (Or.inl Fr.rf) ⟨by rw [e1 4 (by omega)]; exact r2.1, fun j hj => ?_⟩ (r3.fr hv.2.1.2.1.1 (e1 _ (by omega)) (fun c _ _ => e1 _ (by omega))) (r4.fr (e1 _ (by omega)) (e1 _ (by omega)) (e1 _ (by omega))) hv.2.1 Fr.rf (fun j hj => ?_) (r9.fr (fun c _ _ => e1 c (by omega))) (fun k hk => (hp.1 k hk).2)
        · have := (hp.1 j (by omega)).2
          exact (r2.2 j hj).fr (e1 _ (by omega)) (e1 _ (by omega))
        · have := (hp.1 j (by omega)).2
          exact (r8 j hj).fr (fun c _ _ => e1 c (by omega))
      · rw [hd, if_pos he]
        simp only [rX9_sets_55, rX9_sets_58, rX9_sets_59, rX9_sets_60, rX9_sets_63, rX9_sets_66, rX9_sets_67, rX9_sets_68, rX9_sets_71, rX9_sets_74, rX9_sets_75, rX9_sets_76, rX9_sets_79, rX9_sets_80, rX9_sets_81, rX9_sets_84, rX9_sets_87, rX9_sets_88, a1, true_and]
        rw [if_neg (by decide)]
        rfl
    · rw [if_neg he]
      obtain ⟨I2, p1, p2, p3⟩ := c_rowCopy (I := I1) (J := J) lk.2.2.2.2.2.1 b1 htx hT30 hT30 (by omega)
      obtain ⟨I3, t1, t2, t3, t4⟩ := C_setLine (J := J) g hp rc hv hkk hT30 q1 q2 p1 p2
      refine ⟨_, Q, t1, Fr.tr (Fr.tr (S := fun c => 1 ≤ c ∧ c < 270) (Fr.tr (S := fun c => 1 ≤ c ∧ c < 270) q2 p2 (fun c z => by omega) (fun c z => by omega)) t2 (fun c z => z) (fun c z => by omega)) Fr_u2 (fun c z => z) (fun c z => by omega), fun _ _ => rfl, fun K => ?_⟩
      rw [hd, if_neg he]
      simp only [rX9_sets_55, rX9_sets_58, rX9_sets_59, rX9_sets_60, rX9_sets_63, rX9_sets_66, rX9_sets_67, rX9_sets_68, rX9_sets_71, a1, a2, rf_some, lk.2.2.2.2.2.1.1, true_and, if_true]
      rw [p3]
      simp only [tl_none, rX9_sets_74, rX9_sets_75, rX9_sets_76, rX9_sets_79, rX9_sets_80, rX9_sets_81, a1, a3, c1, rf_some, true_and]
      rw [t4]
      simp only [tl_some, rX9_sets_84, rX9_sets_87, rX9_sets_88, a1, true_and]
  · rw [if_pos hk]
    refine CA.bad cs (fun K => ?_)
    simp only [rX9_sets_0, rX9_sets_1, rX9_sets_4, rX9_sets_5, a1, a3, rf_some, c1, true_and]
    rw [c_hasLine g r2.1 hl10]
    simp only [tl_some, rX9_sets_8, rX9_sets_11, rX9_sets_12, rX9_sets_14, rX9_sets_17, a1, true_and, rfB g]
    rw [if_neg hk, if_neg (by decide)]
theorem tdl {l : List Int32} {i : Nat} {c : Int32} (h : i ≤ l.length) : (l.take i ++ c :: l.drop i).length = l.length + 1 := by simp; omega
theorem leN {i : Int32} {n : Nat} (hn : n < 1000) : inR i (n + 1) ↔ ¬ i < 0 ∧ ¬ nI n < i := by
  constructor
  · rintro ⟨q1, q2⟩
    obtain ⟨j, hj, rfl⟩ := inR_of (by omega) ⟨q1, q2⟩
    exact ⟨q1, nI_nlt (by omega) (by omega)⟩
  · rintro ⟨q1, q2⟩
    refine ⟨q1, fun z => q2 ?_⟩
    obtain ⟨j, hj, rfl⟩ := nI_of q1
    exact nI_lt (by have := (nI_leI (by omega) hj).mp z; omega) hj
theorem C_puts {k i c : Int32} (cs : CS w I Q S) : CA w I Q J mX9_puts [.ref 1, .int k, .int i, .int c, .null] (.int (sp_puts k i c S).1) (sp_puts k i c S).2 := by
  obtain ⟨g, hv, π, nx, hp, rc⟩ := id cs
  obtain ⟨⟨a1, a2, a3, a4, a5⟩, b1, ⟨c1, c2, c3, c4, c5, c6⟩, lns, pn, rl, ⟨h1, h2, h3, h4⟩, -⟩ := id g
  obtain ⟨r1, r2, r3, r4, r5, r6, r7, r8, r9⟩ := id rc
  have hl10 := hv.2.1.1.1
  unfold sp_puts
  by_cases hk : inR k S.2.1.1.length
  · obtain ⟨kk, hkk, rfl⟩ := inR_of (by omega) hk
    rw [nI_clamp (show kk < 2 ^ 31 by omega)]
    have hl30 := hv.2.1.1.2 kk hkk
    have hk10 : kk < 10 := by omega
    have hpk := hp.1 kk hk10
    have lk := lns (π kk) hpk.2
    have hleN := leN (i := i) (n := (S.2.1.1.getD kk []).length) (by omega)
    have hd : ∀ {K : Option Value → WS → HS → Prop}, WP mX9_puts 0 [.ref 1, .int (nI kk), .int i, .int c, .null] [] w (I, Q, J) K ↔ if i < 0 then WP mX9_puts 41 [.ref 1, .int (nI kk), .int i, .int c, .null] [] w (I, Q, J) K else if nI (S.2.1.1.getD kk []).length < i then WP mX9_puts 41 [.ref 1, .int (nI kk), .int i, .int c, .null] [] w (I, Q, J) K else if byI c then WP mX9_puts 48 [.ref 1, .int (nI kk), .int i, .int c, .null] [] w (I, Q, J) K else WP mX9_puts 41 [.ref 1, .int (nI kk), .int i, .int c, .null] [] w (I, Q, J) K := by
      intro K
      simp only [rX9_puts_0, rX9_puts_1, rX9_puts_4, rX9_puts_5, a1, a3, rf_some, c1, true_and]
      rw [c_hasLine g r2.1 hl10, if_pos hk]
      simp only [tl_some, rX9_puts_8, rX9_puts_11, rX9_puts_12, rX9_puts_15, rX9_puts_16, rX9_puts_17, rX9_puts_20, rX9_puts_23, rX9_puts_24, rX9_puts_25, rX9_puts_28, rX9_puts_31, rX9_puts_34, rX9_puts_35, rX9_puts_38, a1, a3, c1, c2, c6, rf_some, true_and, true_or, vin_nI hk10 (by decide), nI_clamp (show kk < 2 ^ 31 by omega), hpk.1, lk.1, lk.2.1, lk.2.2.2.2.2.1.1, (r2.2 kk hkk).1, c_isByte]
      rw [if_neg (by decide)]
      by_cases q1 : i < 0
      · rw [if_pos q1, if_pos q1]
      · rw [if_neg q1, if_neg q1]
        by_cases q2 : nI (S.2.1.1.getD kk []).length < i
        · rw [if_pos q2, if_pos q2]
        · rw [if_neg q2, if_neg q2]
          by_cases q3 : byI c
          · rw [if_pos q3, if_pos (by decide), if_pos q3]
          · rw [if_neg q3, if_neg (by decide), if_neg q3]
    by_cases hok : inR i ((S.2.1.1.getD kk []).length + 1) ∧ byI c
    · rw [if_neg (fun z => z ⟨hk, hok.1, hok.2⟩)]
      obtain ⟨z1, z2⟩ := hleN.mp hok.1
      obtain ⟨ii, hii, rfl⟩ := inR_of (by omega) hok.1
      have hd2 : ∀ {K : Option Value → WS → HS → Prop}, WP mX9_puts 0 [.ref 1, .int (nI kk), .int (nI ii), .int c, .null] [] w (I, Q, J) K ↔ WP mX9_puts 48 [.ref 1, .int (nI kk), .int (nI ii), .int c, .null] [] w (I, Q, J) K := by
        intro K
        rw [hd, if_neg z1, if_neg z2, if_pos hok.2]
      by_cases hf : 30 ≤ (S.2.1.1.getD kk []).length
      · rw [if_pos hf]
        refine CA.full cs (fun K => ?_)
        rw [hd2]
        simp only [rX9_puts_48, rX9_puts_49, rX9_puts_52, rX9_puts_55, rX9_puts_56, rX9_puts_57, rX9_puts_60, rX9_puts_62, rX9_puts_64, rX9_puts_67, rX9_puts_69, rX9_puts_72, rX9_puts_73, rX9_puts_75, rX9_puts_78, a1, a3, c1, c2, c6, rf_some, true_and, true_or, vin_nI hk10 (by decide), nI_clamp (show kk < 2 ^ 31 by omega), hpk.1, lk.1, lk.2.1, lk.2.2.2.2.2.1.1, (r2.2 kk hkk).1, rfF g, tl_some]
        rw [if_neg (show ¬ nI (S.2.1.1.getD kk []).length < 30 from nI_nlt (show 30 ≤ (S.2.1.1.getD kk []).length by omega) (by omega))]
      · rw [if_neg hf, nI_clamp (show ii < 2 ^ 31 by omega)]
        obtain ⟨I1, nx', q1, q2, q3⟩ := C_keep (J := J) g hp rc hv
        have e1 : ∀ c, (c < 92 ∨ 269 ≤ c) → I1 c = I c := fun c q => q2 c (by omega)
        have hrow : rowIs I1 (6 + 7 * π kk + 1) (6 + 7 * π kk + 2) (S.2.1.1.getD kk []) := (r2.2 kk hkk).fr (e1 _ (by omega)) (e1 _ (by omega))
        obtain ⟨I2, p1, p2, p3⟩ := c_rowPut (I := I1) (J := J) (i := ii) (c := c) lk.2.2.2.2.2.1 hrow (by omega) (by omega)
        obtain ⟨I3, t1, t2, t3, t4⟩ := C_setLine (J := J) g hp rc hv hkk (l := (S.2.1.1.getD kk []).take ii ++ c :: (S.2.1.1.getD kk []).drop ii) (by rw [tdl (by omega)]; omega) q1 q2 p1 p2
        have eln : ((S.2.1.1.getD kk []).take ii ++ c :: (S.2.1.1.getD kk []).drop ii).length = (S.2.1.1.getD kk []).length + 1 := tdl (by omega)
        refine ⟨_, Q, t1, Fr.tr (Fr.tr (S := fun c => 1 ≤ c ∧ c < 270) (Fr.tr (S := fun c => 1 ≤ c ∧ c < 270) q2 p2 (fun c z => by omega) (fun c z => by omega)) t2 (fun c z => z) (fun c z => by omega)) Fr_u2 (fun c z => z) (fun c z => by omega), fun _ _ => rfl, fun K => ?_⟩
        rw [hd2]
        simp only [rX9_puts_48, rX9_puts_49, rX9_puts_52, rX9_puts_55, rX9_puts_56, rX9_puts_57, rX9_puts_60, rX9_puts_62, rX9_puts_64, rX9_puts_67, rX9_puts_69, rX9_puts_72, rX9_puts_73, rX9_puts_75, rX9_puts_78, rX9_puts_79, rX9_puts_80, rX9_puts_83, rX9_puts_84, rX9_puts_87, a1, a3, a4, h1, c1, c2, c6, rf_some, true_and, true_or, vin_nI hk10 (by decide), nI_clamp (show kk < 2 ^ 31 by omega), hpk.1, lk.1, lk.2.1, lk.2.2.2.2.2.1.1, (r2.2 kk hkk).1]
        rw [if_pos (show nI (S.2.1.1.getD kk []).length < 30 from nI_lt (show (S.2.1.1.getD kk []).length < 30 by omega) (by decide)), q3]
        simp only [tl_none, rX9_puts_90, rX9_puts_92, rX9_puts_93, rX9_puts_94, lk.2.2.2.2.2.1.1, true_and]
        rw [p3]
        simp only [tl_none, rX9_puts_97, rX9_puts_98, rX9_puts_99, rX9_puts_102, rX9_puts_103, rX9_puts_104, a1, a3, c1, rf_some, true_and]
        rw [t4]
        have e9 : u2 I3 1 4 (nI (anewN S.2.1.2.1 (S.2.1.1.set kk ((S.2.1.1.getD kk []).take ii ++ c :: (S.2.1.1.getD kk []).drop ii)) (fun _ => false) (fun j => stAt S.2.1.2.1 S.2.1.1 (j + 1)) kk kk)) (6 + 7 * π kk + 1) 1 = nI ((S.2.1.1.getD kk []).length + 1) := by
          rw [u2_ne (Or.inl (by omega)), t3, p1.1, eln]
        simp only [tl_some, rX9_puts_107, rX9_puts_110, rX9_puts_112, rX9_puts_115, a1, true_and, lk.2.2.2.2.2.1.1, e9]
    · rw [if_pos (fun z => hok z.2)]
      refine CA.bad cs (fun K => ?_)
      have fin : WP mX9_puts 41 [.ref 1, .int (nI kk), .int i, .int c, .null] [] w (I, Q, J) K ↔ K (some (.int (-2))) w (u2 I 269 0 (I 269 0 + 1), Q, J) := by
        simp only [rX9_puts_41, rX9_puts_42, rX9_puts_44, rX9_puts_47, a1, true_and, rfB g, tl_some]
      rw [hd, ← fin]
      by_cases q1 : i < 0
      · rw [if_pos q1]
      · rw [if_neg q1]
        by_cases q2 : nI (S.2.1.1.getD kk []).length < i
        · rw [if_pos q2]
        · rw [if_neg q2, if_neg (fun z => hok ⟨hleN.mpr ⟨q1, q2⟩, z⟩)]
  · rw [if_pos (fun z => hk z.1)]
    refine CA.bad cs (fun K => ?_)
    simp only [rX9_puts_0, rX9_puts_1, rX9_puts_4, rX9_puts_5, a1, a3, rf_some, c1, true_and]
    rw [c_hasLine g r2.1 hl10, if_neg hk]
    simp only [tl_some, rX9_puts_8, rX9_puts_41, rX9_puts_42, rX9_puts_44, rX9_puts_47, a1, true_and, rfB g, if_true]
theorem C_erases {k i : Int32} (cs : CS w I Q S) : CA w I Q J mX9_erases [.ref 1, .int k, .int i, .null, .null] (.int (sp_erases k i S).1) (sp_erases k i S).2 := by
  obtain ⟨g, hv, π, nx, hp, rc⟩ := id cs
  obtain ⟨⟨a1, a2, a3, a4, a5⟩, b1, ⟨c1, c2, c3, c4, c5, c6⟩, lns, pn, rl, ⟨h1, h2, h3, h4⟩, -⟩ := id g
  obtain ⟨r1, r2, r3, r4, r5, r6, r7, r8, r9⟩ := id rc
  have hl10 := hv.2.1.1.1
  unfold sp_erases
  by_cases hki : inR k S.2.1.1.length ∧ inR i (S.2.1.1.getD k.toNatClampNeg []).length
  · rw [if_neg (fun z => z hki)]
    obtain ⟨kk, hkk, rfl⟩ := inR_of (by omega) hki.1
    have hb := hki.2
    rw [nI_clamp (show kk < 2 ^ 31 by omega)] at hb ⊢
    have hl30 := hv.2.1.1.2 kk hkk
    obtain ⟨ii, hii, rfl⟩ := inR_of (by omega) hb
    rw [nI_clamp (show ii < 2 ^ 31 by omega)]
    have hk10 : kk < 10 := by omega
    have hpk := hp.1 kk hk10
    have lk := lns (π kk) hpk.2
    obtain ⟨I1, nx', q1, q2, q3⟩ := C_keep (J := J) g hp rc hv
    have e1 : ∀ c, (c < 92 ∨ 269 ≤ c) → I1 c = I c := fun c q => q2 c (by omega)
    have hrow : rowIs I1 (6 + 7 * π kk + 1) (6 + 7 * π kk + 2) (S.2.1.1.getD kk []) := (r2.2 kk hkk).fr (e1 _ (by omega)) (e1 _ (by omega))
    obtain ⟨I2, p1, p2, p3⟩ := c_rowErase (I := I1) (J := J) (i := ii) lk.2.2.2.2.2.1 hrow hii hl30
    obtain ⟨I3, t1, t2, t3, t4⟩ := C_setLine (J := J) g hp rc hv hkk (l := (S.2.1.1.getD kk []).eraseIdx ii) (by rw [List.length_eraseIdx_of_lt hii]; omega) q1 q2 p1 p2
    refine ⟨_, Q, t1, Fr.tr (Fr.tr (S := fun c => 1 ≤ c ∧ c < 270) (Fr.tr (S := fun c => 1 ≤ c ∧ c < 270) q2 p2 (fun c z => by omega) (fun c z => by omega)) t2 (fun c z => z) (fun c z => by omega)) Fr_u2 (fun c z => z) (fun c z => by omega), fun _ _ => rfl, fun K => ?_⟩
    simp only [rX9_erases_0, rX9_erases_1, rX9_erases_4, rX9_erases_5, rX9_erases_6, a1, a3, rf_some, c1, true_and]
    rw [c_hasByte g hp r2 hv.2.1.1]
    simp only [nI_clamp (show kk < 2 ^ 31 by omega)]
    rw [if_pos (show inR (nI kk) S.2.1.1.length ∧ inR (nI ii) (S.2.1.1.getD kk []).length from ⟨hki.1, hb⟩)]
    simp only [tl_some, rX9_erases_9, rX9_erases_12, rX9_erases_13, rX9_erases_15, rX9_erases_18, rX9_erases_19, rX9_erases_20, rX9_erases_23, rX9_erases_24, rX9_erases_27, a1, a3, a4, h1, rf_some, true_and]
    rw [if_pos (by decide), q3]
    simp only [tl_none, rX9_erases_30, rX9_erases_31, rX9_erases_34, rX9_erases_37, rX9_erases_38, rX9_erases_39, rX9_erases_42, rX9_erases_43, rX9_erases_44, rX9_erases_45, a1, a3, c1, c2, c6, rf_some, true_and, true_or, vin_nI hk10 (by decide), nI_clamp (show kk < 2 ^ 31 by omega), hpk.1, lk.1, lk.2.1, lk.2.2.2.2.2.1.1]
    rw [c_signAt lk.2.2.2.2.2.1 hrow hl30 (by omega), if_pos hii]
    simp only [tl_some, rX9_erases_48, rX9_erases_50, rX9_erases_51, rX9_erases_52, lk.2.2.2.2.2.1.1, true_and]
    rw [p3]
    simp only [tl_none, rX9_erases_55, rX9_erases_56, rX9_erases_57, rX9_erases_60, rX9_erases_61, rX9_erases_62, a1, a3, c1, rf_some, true_and]
    rw [t4]
    simp only [tl_some, rX9_erases_65, rX9_erases_68, rX9_erases_70, a1, true_and]
  · rw [if_pos hki]
    refine CA.bad cs (fun K => ?_)
    simp only [rX9_erases_0, rX9_erases_1, rX9_erases_4, rX9_erases_5, rX9_erases_6, a1, a3, rf_some, c1, true_and]
    rw [c_hasByte g hp r2 hv.2.1.1, if_neg hki]
    simp only [tl_some, rX9_erases_9, rX9_erases_12, rX9_erases_13, rX9_erases_15, rX9_erases_18, a1, true_and, rfB g]
    rw [if_neg (by decide)]
end C4
