section C8
variable {w : WS} {I : Nat → Nat → Int32} {Q : Nat → Nat → Option Nat} {J : Nat → Nat → Int64} {S : SP}
theorem i32_between {c : Int32} {a b : Int32} {K1 K2 : Prop} (d : Int32) (hb : d.toInt = b.toInt + 1) : (if c < a then K2 else if d ≤ c then K2 else K1) ↔ if a ≤ c ∧ c ≤ b then K1 else K2 := by
  by_cases q : c < a
  · rw [if_pos q, if_neg (fun z => absurd z.1 (Int32.not_le.mpr q))]
  · rw [if_neg q]
    by_cases q2 : d ≤ c
    · rw [if_pos q2, if_neg (fun z => by
        have h1 := Int32.le_iff_toInt_le.mp q2
        have h2 := Int32.le_iff_toInt_le.mp z.2
        omega)]
    · rw [if_neg q2, if_pos ⟨Int32.not_lt.mp q, by
        have h1 := Int32.lt_iff_toInt_lt.mp (Int32.not_le.mp q2)
        exact Int32.le_iff_toInt_le.mpr (by omega)⟩]
theorem C_rule {c m s : Int32} (cs : CS w I Q S) : CA w I Q J mX9_rule [.ref 1, .int c, .int m, .int s, .null, .null] (.int (sp_rule c m s S).1) (sp_rule c m s S).2 := by
  obtain ⟨g, hv, π, nx, hp, rc⟩ := id cs
  obtain ⟨⟨a1, a2, a3, a4, a5⟩, b1, ⟨c1, c2, c3, c4, c5, c6⟩, lns, pn, rl, ⟨h1, h2, h3, h4⟩, -⟩ := id g
  obtain ⟨r1, r2, r3, r4, r5, r6, r7, r8, r9⟩ := id rc
  have hl10 := hv.2.1.1.1
  have hd : ∀ {K : Option Value → WS → HS → Prop}, WP mX9_rule 0 [.ref 1, .int c, .int m, .int s, .null, .null] [] w (I, Q, J) K ↔ if (-1 ≤ c ∧ c ≤ 7) ∧ (-1 ≤ m ∧ m ≤ 2) ∧ (0 ≤ s ∧ s ≤ 99) then WP mX9_rule 50 [.ref 1, .int c, .int m, .int s, .int 1, .null] [] w (I, Q, J) K else K (some (.int (-2))) w (u2 I 269 0 (I 269 0 + 1), Q, J) := by
    intro K
    simp only [rX9_rule_0, rX9_rule_1, rX9_rule_2, rX9_rule_5, rX9_rule_6, rX9_rule_8, rX9_rule_11, rX9_rule_12, rX9_rule_13, rX9_rule_16, rX9_rule_17, rX9_rule_18, rX9_rule_21, rX9_rule_22, rX9_rule_25, rX9_rule_26, rX9_rule_28, rX9_rule_30, rX9_rule_33, rX9_rule_34, rX9_rule_37, rX9_rule_38, rX9_rule_40, rX9_rule_43, rX9_rule_44, rX9_rule_46, rX9_rule_49, a1, true_and, rfB g, tl_some]
    rw [i32_between (b := 7) 8 (by decide), i32_between (b := 2) 3 (by decide)]
    simp only [if_true, show ¬ (1 : Int32) = 0 by decide, if_false]
    by_cases q1 : -1 ≤ c ∧ c ≤ 7
    · rw [if_pos q1]
      by_cases q2 : -1 ≤ m ∧ m ≤ 2
      · rw [if_pos q2]
        by_cases q3 : s < 0
        · rw [if_pos q3, if_neg (fun z => absurd z.2.2.1 (Int32.not_le.mpr q3))]
        · rw [if_neg q3]
          by_cases q4 : s ≤ 99
          · rw [if_pos q4, if_pos ⟨q1, q2, Int32.not_lt.mp q3, q4⟩]
          · rw [if_neg q4, if_neg (fun z => q4 z.2.2.2)]
      · rw [if_neg q2, if_neg (fun z => q2 z.2.1)]
    · rw [if_neg q1, if_neg (fun z => q1 z.1)]
  unfold sp_rule
  by_cases hq : (-1 ≤ c ∧ c ≤ 7) ∧ (-1 ≤ m ∧ m ≤ 2) ∧ (0 ≤ s ∧ s ≤ 99)
  · rw [if_neg (fun z => z hq)]
    by_cases hf : S.2.1.2.2.length = 12
    · rw [if_pos hf]
      refine CA.full cs (fun K => ?_)
      rw [hd, if_pos hq]
      simp only [rX9_rule_50, rX9_rule_51, rX9_rule_54, rX9_rule_57, rX9_rule_60, rX9_rule_62, rX9_rule_65, rX9_rule_66, rX9_rule_68, rX9_rule_71, a1, a3, c1, c4, rl.1, r4.1, rf_some, true_and, rfF g, tl_some]
      rw [if_neg (show ¬ nI S.2.1.2.2.length < 12 from nI_nlt (show 12 ≤ S.2.1.2.2.length by omega) (by omega))]
    · rw [if_neg hf]
      have hR := hv.2.1.2.2
      obtain ⟨I1, nx', q1, q2, q3⟩ := C_keep (J := J) g hp rc hv
      have e1 : ∀ c, (c < 92 ∨ 269 ≤ c) → I1 c = I c := fun c q => q2 c (by omega)
      have r4' : rlIs I1 86 87 88 S.2.1.2.2 := r4.fr (e1 _ (by omega)) (e1 _ (by omega)) (e1 _ (by omega))
      obtain ⟨I2, o1, o2, o3⟩ := c_rlAdd (J := J) (x1 := c) (x2 := m) (x3 := s) rl r4' (by omega)
      have e2 : ∀ z, (z < 86 ∨ 88 < z) → (z < 92 ∨ 269 ≤ z) → I2 z = I z := fun z y1 y2 => (o2 z (by omega)).trans (e1 z y2)
      have hZ : zV (S.2.1.1, S.2.1.2.1, S.2.1.2.2 ++ [(c, m, s)]) := ⟨hv.2.1.1, hv.2.1.2.1, by show (S.2.1.2.2 ++ [(c, m, s)]).length ≤ 12; simp; omega⟩
      have hRC : RC (u2 I2 1 4 (nI S.2.2.2.1)) π nx' (chS S (S.2.1.1, S.2.1.2.1, S.2.1.2.2 ++ [(c, m, s)]) S.2.2.2.1) :=
        rc.chg hv (fun k hk => (hp.1 k hk).2) q1 q2 (Or.inl (o2.wk (fun c z => by omega))) ⟨by rw [e2 4 (by omega) (by omega)]; exact r2.1, fun k hk => (r2.2 k hk).fr (e2 _ (by have := (hp.1 k (by dsimp only at hk; omega)).2; omega) (by have := (hp.1 k (by dsimp only at hk; omega)).2; omega)) (e2 _ (by have := (hp.1 k (by dsimp only at hk; omega)).2; omega) (by have := (hp.1 k (by dsimp only at hk; omega)).2; omega))⟩ (r3.fr hv.2.1.2.1.1 (e2 _ (by omega) (by omega)) (fun c _ _ => e2 _ (by omega) (by omega))) o1 hZ Fr.rf (fun j hj => (r8 j hj).fr (fun c _ _ => e2 _ (by have := (hp.1 j (by dsimp only at hj; omega)).2; omega) (by have := (hp.1 j (by dsimp only at hj; omega)).2; omega))) (r9.fr (fun c _ _ => e2 _ (by omega) (by omega))) (fun k hk => (hp.1 k hk).2)
      have e14 : u2 I2 1 4 (nI S.2.2.2.1) = I2 := by
        funext x y
        by_cases hxy : x = 1 ∧ y = 4
        · obtain ⟨rfl, rfl⟩ := hxy
          rw [u2_same, e2 1 (by omega) (by omega), r6]
        · exact u2_ne (by omega)
      rw [e14] at hRC
      refine ⟨I2, Q, ⟨g, hv.ch hZ hv.2.2.2, π, nx', hp, hRC⟩, Fr.tr (S := fun c => 1 ≤ c ∧ c < 270) q2 o2 (fun c z => by omega) (fun c z => by omega), fun c hc => rfl, fun K => ?_⟩
      rw [hd, if_pos hq]
      simp only [rX9_rule_50, rX9_rule_51, rX9_rule_54, rX9_rule_57, rX9_rule_60, rX9_rule_62, rX9_rule_65, rX9_rule_66, rX9_rule_68, rX9_rule_71, rX9_rule_72, rX9_rule_73, rX9_rule_76, rX9_rule_77, rX9_rule_80, a1, a3, a4, h1, c1, c4, rl.1, r4.1, rf_some, true_and]
      rw [if_pos (show nI S.2.1.2.2.length < 12 from nI_lt (show S.2.1.2.2.length < 12 by omega) (by decide)), q3]
      simp only [tl_none, rX9_rule_83, rX9_rule_84, rX9_rule_87, rX9_rule_90, rX9_rule_93, rX9_rule_95, rX9_rule_96, rX9_rule_99, rX9_rule_102, rX9_rule_103, rX9_rule_104, rX9_rule_105, a1, a3, c1, c4, rl.1, r4'.1, rf_some, true_and]
      rw [o3]
      simp only [tl_none, rX9_rule_108, rX9_rule_110]
  · rw [if_pos hq]
    refine CA.bad cs (fun K => ?_)
    rw [hd, if_neg hq]
/-- what the physical lines say of their ends -/
theorem ph_ends {π : Nat → Nat} (h : phOK I) (hp : ∀ k, k < 10 → π k < 10) : ∃ (nw : Nat → Bool) (E : Nat → List Nat × Nat), (∀ j, stV (E j)) ∧ ∀ j, j < 10 → I (6 + 7 * π j) 4 = (if nw j then 1 else 0) ∧ (nw j = false → stIs I (6 + 7 * π j + 5) (6 + 7 * π j + 6) (E j)) := by
  have hx : ∀ j, ∃ (z : Bool × (List Nat × Nat)), stV z.2 ∧ (j < 10 → I (6 + 7 * π j) 4 = (if z.1 then 1 else 0) ∧ (z.1 = false → stIs I (6 + 7 * π j + 5) (6 + 7 * π j + 6) z.2)) := by
    intro j
    by_cases hj : j < 10
    · rcases h (π j) (hp j hj) with q | ⟨q, E, q1, q2⟩
      · exact ⟨(true, ([0], 0)), stAt_ok [] [] 0, fun _ => ⟨by rw [q]; rfl, fun z => by simp at z⟩⟩
      · exact ⟨(false, E), q1, fun _ => ⟨by rw [q]; rfl, fun _ => q2⟩⟩
    · exact ⟨(true, ([0], 0)), stAt_ok [] [] 0, fun z => absurd z hj⟩
  exact ⟨fun j => (hx j).choose.1, fun j => (hx j).choose.2, fun j => (hx j).choose_spec.1, fun j hj => (hx j).choose_spec.2 hj⟩
theorem C_back (cs : CS w I Q S) : CA w I Q J mX9_back [.ref 1] (.int (sp_back S).1) (sp_back S).2 := by
  obtain ⟨g, hv, π, nx, hp, rc⟩ := id cs
  obtain ⟨⟨a1, a2, a3, a4, a5⟩, b1, ⟨c1, c2, c3, c4, c5, c6⟩, lns, pn, rl, ⟨h1, h2, h3, h4⟩, -⟩ := id g
  obtain ⟨r1, r2, r3, r4, r5, r6, r7, r8, r9⟩ := id rc
  obtain ⟨T, Z0, H0, an, f⟩ := S
  cases H0 with
  | nil =>
    refine CA.no cs (fun K => ?_)
    have e0 : I 92 1 = 0 := r5.1
    simp only [rX9_back_0, rX9_back_1, rX9_back_4, rX9_back_7, rX9_back_10, rX9_back_11, rX9_back_13, rX9_back_16, a1, a4, h1, e0, rf_some, true_and, rfN g, tl_some, if_true, not_true_eq_false, if_false]
  | cons Z H =>
    have hH : hsV (Z :: H) := hv.2.2.1
    have hzv : zV Z := hH.2 0 (by simp)
    have hHl : H.length ≤ 4 := by have := hH.1; simp at this; omega
    have hH2 : hsV H := ⟨by omega, fun d hd => hH.2 (d + 1) (by simp; omega)⟩
    have hz10 := hzv.1.1
    have hz4 := hzv.2.1.1
    obtain ⟨I1, nx', o1, o2, o3, o4, o5, o6⟩ := c_giveBack (J := J) g hp hH r5
    have e1 : ∀ c, ¬ (givS c ∨ c = 92) → I1 c = I c := fun c hc => o5 c hc
    have ph1 : phOK I1 := fun p hp10 => by
      have ee : ∀ c, c = 6 + 7 * p ∨ c = 6 + 7 * p + 5 ∨ c = 6 + 7 * p + 6 → I1 c = I c := fun c hc => e1 c (by omega)
      rcases r9 p hp10 with z | ⟨z, E, z1, z2⟩
      · left; rw [ee _ (by omega)]; exact z
      · right; exact ⟨by rw [ee _ (by omega)]; exact z, E, z1, z2.fr (ee _ (by omega)) (ee _ (by omega))⟩
    obtain ⟨nw, E, hE, hnE⟩ := ph_ends ph1 (fun k hk => (hp.1 k hk).2)
    obtain ⟨I2, k1, k2, k3⟩ := c_repaint (J := J) g hp hzv.1 hzv.2.1 nw E hE (first := 0) (last := Z.1.length) hz10 (Nat.zero_le _) o2 o3 ⟨fun j hj => by omega, fun j _ hj => hnE j (by omega), fun j _ q1 q2 => by omega⟩
    have ph2 : phOK I2 := ph_of hp ph1 hz10 k1 k2.2
    have e2 : ∀ c, c ≠ 1 → ¬ inkS c → u2 I2 1 4 0 c = I1 c := fun c z1 z2 => (Fr_u2 c z1).trans (k2.1 c z2)
    have e3 : ∀ c, c ≠ 1 → u2 I2 1 4 0 c = I2 c := fun c z1 => Fr_u2 c z1
    refine ⟨u2 I2 1 4 0, Q, ⟨g, ⟨hv.1, hzv, hH2, Nat.zero_le _⟩, π, nx', hp, ?_⟩, Fr.tr (Fr.tr (S := fun c => 1 ≤ c ∧ c < 270) o5 k2.1 (fun c z => by omega) (fun c z => by omega)) Fr_u2 (fun c z => z) (fun c z => by omega), fun _ _ => rfl, fun K => ?_⟩
    · refine ⟨r1.fr ((e2 _ (by omega) (by omega)).trans (e1 _ (by omega))) ((e2 _ (by omega) (by omega)).trans (e1 _ (by omega))), ⟨by rw [e2 4 (by omega) (by omega)]; exact o2.1, fun k hk => ?_⟩, o3.fr hz4 (e2 _ (by omega) (by omega)) (fun c _ _ => e2 _ (by omega) (by omega)), o4.fr (e2 _ (by omega) (by omega)) (e2 _ (by omega) (by omega)) (e2 _ (by omega) (by omega)), ⟨by rw [e2 92 (by omega) (by omega)]; exact o1.1, by rw [e2 92 (by omega) (by omega)]; exact o1.2.1, o1.2.2.1, fun d hd => (o1.2.2.2 d hd).fr (hH2.2 d hd) (fun c _ _ => e2 c (by omega) (by omega))⟩, u2_same, ?_, fun k hk => ?_, ph2.fr (fun c _ _ => e3 c (by omega))⟩
      · have hk' : k < Z.1.length := hk
        have := (hp.1 k (by omega)).2
        exact (o2.2 k hk).fr (e2 _ (by omega) (by omega)) (e2 _ (by omega) (by omega))
      · rw [e2 269 (by omega) (by omega), e1 269 (by omega)]; exact r7
      · have hk' : k < Z.1.length := hk
        have := (hp.1 k (by omega)).2
        exact (k1 k hk').fr (fun c _ _ => e3 c (by omega))
    · have e0 : I 92 1 = nI (H.length + 1) := r5.1
      simp only [rX9_back_0, rX9_back_1, rX9_back_4, rX9_back_7, rX9_back_10, rX9_back_11, rX9_back_13, rX9_back_16, rX9_back_17, rX9_back_18, rX9_back_21, rX9_back_22, rX9_back_25, a1, a3, a4, h1, e0, rf_some, true_and, rfN g, tl_some]
      rw [if_pos (show ¬ nI (H.length + 1) = 0 from fun z => by have := nI_inj (b := 0) (by omega) (by decide) z; omega), o6]
      simp only [tl_none, rX9_back_28, rX9_back_29, rX9_back_32, rX9_back_33, rX9_back_34, rX9_back_37, rX9_back_40, a1, a3, c1, rf_some, true_and, o2.1]
      rw [show (0 : Int32) = nI 0 from rfl, k3]
      have e92 : u2 I2 1 4 0 92 1 = nI H.length := by rw [e2 92 (by omega) (by omega)]; exact o1.1
      simp only [tl_some, rX9_back_43, rX9_back_44, rX9_back_45, rX9_back_46, rX9_back_49, rX9_back_50, rX9_back_53, rX9_back_56, a1, a4, h1, rf_some, true_and, e92]
      rfl
end C8
