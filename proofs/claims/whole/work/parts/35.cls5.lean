section C5
variable {w : WS} {I : Nat → Nat → Int32} {Q : Nat → Nat → Option Nat} {J : Nat → Nat → Int64} {S : SP}
/-- a change's end: painted anew, and counted -/
theorem C_paint {π π' : Nat → Nat} {Q' : Nat → Nat → Option Nat} {nx nx' first last : Nat} {Z : ZS} {I1 I2 : Nat → Nat → Int32} {nw : Nat → Bool} {E : Nat → List Nat × Nat} (g : gOK w Q') (hp : piOK Q' π') (hpl : ∀ k, k < 10 → π k < 10) (rc : RC I π nx S) (hv : SV S) (h1 : hsIs I1 nx' ((S.2.1 :: S.2.2.1).take 5)) (f1 : Fr (fun c => 92 ≤ c ∧ c < 269) I I1) (f2 : Fr (fun c => givS c ∨ (6 ≤ c ∧ c < 76)) I1 I2) (pg2 : pgIs I2 π' Z.1) (w2 : wdIs I2 76 78 Z.2.1) (rl2 : rlIs I2 86 87 88 Z.2.2) (hZ : zV Z) (hE : ∀ j, stV (E j)) (hla : last ≤ 10) (hfi : first ≤ Z.1.length) (pre : preRp I2 π' Z.2.1 Z.1 nw E first last) (ph2 : phOK I2) {an : Nat} (han : an = anewN Z.2.1 Z.1 nw E first last) : ∃ I3, CS w (u2 I3 1 4 (nI an)) Q' (chS S Z an) ∧ Fr (fun c => inkS c) I2 I3 ∧ ∀ K, (WP mX3_repaint 0 [.ref 4, .int (nI first), .int (nI last), .null, .null, .null, .null] [] w (I2, Q', J) K ↔ K (some (.int (nI an))) w (I3, Q', J)) := by
  subst han
  have hz10 := hZ.1.1
  obtain ⟨I3, k1, k2, k3⟩ := c_repaint (J := J) g hp hZ.1 hZ.2.1 nw E hE hla hfi pg2 w2 pre
  have ph3 : phOK I3 := ph_of hp ph2 hZ.1.1 k1 k2.2
  exact ⟨I3, ⟨g, hv.ch hZ (Nat.le_trans (anewN_le _ _ _ _ _ _) hZ.1.1), π', nx', hp, rc.chg hv hpl h1 f1 (Or.inr f2) pg2 w2 rl2 hZ k2.1 k1 ph3 (fun k hk => (hp.1 k hk).2)⟩, k2.1, k3⟩
/-- lines moved: line j was line o j, or is new -/
theorem pre_moved {π π' : Nat → Nat} {nx first last : Nat} {ls' : List (List Int32)} {I2 : Nat → Nat → Int32} {nw : Nat → Bool} {o : Nat → Nat} {E : Nat → List Nat × Nat} (rc : RC I π nx S)
    (hE : ∀ j, j < ls'.length → nw j = false → E j = stAt S.2.1.2.1 S.2.1.1 (o j + 1))
    (ha : ∀ j, j < first → j < ls'.length ∧ nw j = false ∧ o j = j ∧ ls'.getD j [] = S.2.1.1.getD j [])
    (hb : ∀ j, j < ls'.length → nw j = false → o j < S.2.1.1.length ∧ π' j = π (o j))
    (hc : ∀ j, j < ls'.length → nw j = false → ∀ c, c = 6 + 7 * π' j ∨ c = 6 + 7 * π' j + 3 ∨ c = 6 + 7 * π' j + 4 ∨ c = 6 + 7 * π' j + 5 ∨ c = 6 + 7 * π' j + 6 → I2 c = I c)
    (hn : ∀ j, j < ls'.length → nw j = true → I2 (6 + 7 * π' j) 4 = 1)
    (hd : ∀ j, first ≤ j → last ≤ j → j + 1 < ls'.length → nw j = false → nw (j + 1) = false ∧ o (j + 1) = o j + 1 ∧ ls'.getD (j + 1) [] = S.2.1.1.getD (o j + 1) []) : preRp I2 π' S.2.1.2.1 ls' nw E first last := by
  obtain ⟨r1, r2, r3, r4, r5, r6, r7, r8, r9⟩ := rc
  have hst : ∀ j, j ≤ first → stAt S.2.1.2.1 ls' j = stAt S.2.1.2.1 S.2.1.1 j := by
    intro j
    induction j with
    | zero => intro _; rfl
    | succ j ih => intro hj; simp only [stAt]; rw [ih (by omega), (ha j (by omega)).2.2.2]
  refine ⟨fun j hj => ?_, fun j q1 q2 => ⟨?_, fun q3 => ?_⟩, fun j q1 q2 q3 q4 => ?_⟩
  · obtain ⟨b1, b2, b3, b4⟩ := ha j hj
    obtain ⟨b5, b6⟩ := hb j b1 b2
    have ee := hc j b1 b2
    have hpd := r8 (o j) b5
    rw [b3] at b6 hpd
    unfold pdIs at hpd ⊢
    rw [b6] at ee ⊢
    rw [b4, hst j (by omega), hst (j + 1) (by omega)]
    exact ⟨hpd.1.fr (ee _ (by omega)) (ee _ (by omega)), hpd.2.1.fr (ee _ (by omega)) (ee _ (by omega)), by rw [ee _ (by omega)]; exact hpd.2.2⟩
  · cases hnw : nw j with
    | true => rw [hn j q2 hnw]; rfl
    | false =>
      obtain ⟨b5, b6⟩ := hb j q2 hnw
      rw [hc j q2 hnw _ (by omega), b6, (r8 (o j) b5).2.2]; rfl
  · obtain ⟨b5, b6⟩ := hb j q2 q3
    have ee := hc j q2 q3
    have hpd := (r8 (o j) b5).2.1
    rw [hE j q2 q3]
    rw [b6] at ee ⊢
    exact hpd.fr (ee _ (by omega)) (ee _ (by omega))
  · obtain ⟨d1, d2, d3⟩ := hd j q1 q2 q3 q4
    obtain ⟨b5, b6⟩ := hb (j + 1) q3 d1
    have ee := hc (j + 1) q3 d1
    have hpd := (r8 (o (j + 1)) b5).1
    refine ⟨d1, ?_, ?_⟩
    · rw [d3, hE j (by omega) q4]
      rw [b6] at ee ⊢
      rw [d2] at hpd ee ⊢
      exact hpd.fr (ee _ (by omega)) (ee _ (by omega))
    · rw [hE (j + 1) q3 d1, hE j (by omega) q4, d3, d2]
      rfl
theorem ins_getD {α : Type} {l : List α} {k j : Nat} {x d : α} (hk : k ≤ l.length) : (l.take k ++ x :: l.drop k).getD j d = if j < k then l.getD j d else if j = k then x else l.getD (j - 1) d := by
  simp only [List.getD_eq_getElem?_getD]
  by_cases h1 : j < k
  · rw [if_pos h1, List.getElem?_append_left (by simp; omega), List.getElem?_take_of_lt h1]
  · rw [if_neg h1, List.getElem?_append_right (by simp; omega)]
    simp only [List.length_take, Nat.min_eq_left hk]
    by_cases h2 : j = k
    · subst h2; simp
    · rw [if_neg h2]
      obtain ⟨e, rfl⟩ : ∃ e, j = k + 1 + e := ⟨j - (k + 1), by omega⟩
      rw [show k + 1 + e - k = e + 1 by omega, List.getElem?_cons_succ, List.getElem?_drop]
      congr 2
      omega
theorem ins_len {α : Type} {l : List α} {k : Nat} {x : α} (hk : k ≤ l.length) : (l.take k ++ x :: l.drop k).length = l.length + 1 := by simp; omega
theorem C_inserts {k : Int32} (cs : CS w I Q S) : CA w I Q J mX9_inserts [.ref 1, .int k] (.int (sp_inserts k S).1) (sp_inserts k S).2 := by
  obtain ⟨g, hv, π, nx, hp, rc⟩ := id cs
  obtain ⟨⟨a1, a2, a3, a4, a5⟩, b1, ⟨c1, c2, c3, c4, c5, c6⟩, lns, pn, rl, ⟨h1, h2, h3, h4⟩, -⟩ := id g
  obtain ⟨r1, r2, r3, r4, r5, r6, r7, r8, r9⟩ := id rc
  have hl10 := hv.2.1.1.1
  have hT30 := hv.1
  have hle := leN (i := k) (n := S.2.1.1.length) (by omega)
  unfold sp_inserts
  by_cases hk : inR k (S.2.1.1.length + 1)
  · rw [if_neg (fun z => z hk)]
    obtain ⟨z1, z2⟩ := hle.mp hk
    obtain ⟨kk, hkk, rfl⟩ := inR_of (by omega) hk
    rw [nI_clamp (show kk < 2 ^ 31 by omega)]
    have hd : ∀ {K : Option Value → WS → HS → Prop}, WP mX9_inserts 0 [.ref 1, .int (nI kk)] [] w (I, Q, J) K ↔ WP mX9_inserts 22 [.ref 1, .int (nI kk)] [] w (I, Q, J) K := by
      intro K
      simp only [rX9_inserts_0, rX9_inserts_1, rX9_inserts_4, rX9_inserts_5, rX9_inserts_6, rX9_inserts_9, rX9_inserts_12, a1, a3, rf_some, c1, r2.1, true_and]
      rw [if_neg z1, if_pos (nI_le (show kk ≤ S.2.1.1.length by omega) (by omega))]
    by_cases hf : S.2.1.1.length = 10
    · rw [if_pos hf]
      refine CA.full cs (fun K => ?_)
      rw [hd]
      simp only [rX9_inserts_22, rX9_inserts_23, rX9_inserts_26, rX9_inserts_29, rX9_inserts_31, rX9_inserts_34, rX9_inserts_35, rX9_inserts_37, rX9_inserts_40, a1, a3, rf_some, c1, r2.1, true_and, rfF g, tl_some]
      rw [if_neg (show ¬ nI S.2.1.1.length < 10 from nI_nlt (show 10 ≤ S.2.1.1.length by omega) (by omega))]
    · rw [if_neg hf]
      have hlt : S.2.1.1.length < 10 := by omega
      have hpn := (hp.1 S.2.1.1.length hlt)
      obtain ⟨I1, nx', q1, q2, q3⟩ := C_keep (J := J) g hp rc hv
      have e1 : ∀ c, (c < 92 ∨ 269 ≤ c) → I1 c = I c := fun c q => q2 c (by omega)
      obtain ⟨I2, Q', o1, o2, o3, o4⟩ := c_openLine (I := I1) (J := J) (k := kk) g hp (ls := S.2.1.1) (by rw [e1 4 (by omega)]; exact r2.1) hlt (by omega)
      have g' : gOK w Q' := g.q o1
      have e2 : ∀ c, c ≠ 4 → c ≠ 6 + 7 * π S.2.1.1.length → c ≠ 6 + 7 * π S.2.1.1.length + 1 → I2 c = I1 c := fun c z1 z2 z3 => by
        rw [o3, Fr_u2 c z1, Fr_u2 c z2, Fr_u2 c z3]
      have hopk : opP π kk S.2.1.1.length kk = π S.2.1.1.length := by unfold opP; rw [if_pos rfl]
      obtain ⟨⟨a1', a2', a3', a4', a5'⟩, b1', ⟨c1', c2', c3', c4', c5', c6'⟩, lns', -, -, ⟨h1', -⟩, -⟩ := id g'
      have lk := lns' (π S.2.1.1.length) hpn.2
      have htx : rowIs I2 2 3 S.1 := (r1.fr (e1 _ (by omega)) (e1 _ (by omega))).fr (e2 _ (by omega) (by omega) (by omega)) (e2 _ (by omega) (by omega) (by omega))
      obtain ⟨I3, p1, p2, p3⟩ := c_rowCopy (I := I2) (J := J) lk.2.2.2.2.2.1 b1' htx hT30 hT30 (by omega)
      have e3 : ∀ c, c ≠ 6 + 7 * π S.2.1.1.length + 1 → c ≠ 6 + 7 * π S.2.1.1.length + 2 → I3 c = I2 c := fun c z1 z2 => p2 c (by omega)
      have e13 : ∀ c, (c < 92 ∨ 269 ≤ c) → c ≠ 4 → (c < 6 + 7 * π S.2.1.1.length ∨ 6 + 7 * π S.2.1.1.length + 2 < c) → I3 c = I c := fun c q1 q2 q3 => by
        rw [e3 c (by omega) (by omega), e2 c q2 (by omega) (by omega), e1 c q1]
      have hlen := ins_len (l := S.2.1.1) (k := kk) (x := S.1) (by omega)
      have hZ : zV (S.2.1.1.take kk ++ S.1 :: S.2.1.1.drop kk, S.2.1.2) := by
        refine ⟨⟨by show (S.2.1.1.take kk ++ S.1 :: S.2.1.1.drop kk).length ≤ 10; omega, fun j hj => ?_⟩, hv.2.1.2⟩
        have hj : j < S.2.1.1.length + 1 := by rw [← hlen]; exact hj
        show ((S.2.1.1.take kk ++ S.1 :: S.2.1.1.drop kk).getD j []).length ≤ 30
        rw [ins_getD (by omega)]
        split
        · exact hv.2.1.1.2 j (by omega)
        · split
          · exact hT30
          · exact hv.2.1.1.2 (j - 1) (by omega)
      have hpi : ∀ j, j < S.2.1.1.length + 1 → j ≠ kk → opP π kk S.2.1.1.length j = π (if j < kk then j else j - 1) := by
        intro j hj hjk
        unfold opP
        rw [if_neg hjk]
        by_cases q : j < kk
        · rw [if_neg (by omega), if_pos q]
        · rw [if_pos (by omega), if_neg q]
      have hne : ∀ j, j < S.2.1.1.length → π j ≠ π S.2.1.1.length := fun j hj z => by have := hp.2 j S.2.1.1.length (by omega) hlt z; omega
      have pg3 : pgIs I3 (opP π kk S.2.1.1.length) (S.2.1.1.take kk ++ S.1 :: S.2.1.1.drop kk) := by
        refine ⟨?_, fun j hj => ?_⟩
        · rw [e3 4 (by omega) (by omega), o3, u2_same, hlen]
        · rw [hlen] at hj
          rw [ins_getD (by omega)]
          by_cases q : j = kk
          · subst q; rw [hopk, if_neg (by omega), if_pos rfl]; exact p1
          · rw [hpi j hj q]
            by_cases q2 : j < kk
            · rw [if_pos q2, if_pos q2]
              have h10 := (hp.1 j (by omega)).2
              have := hne j (by omega)
              exact (r2.2 j (by omega)).fr (e13 _ (by omega) (by omega) (by omega)) (e13 _ (by omega) (by omega) (by omega))
            · rw [if_neg q2, if_neg q2, if_neg q]
              have h10 := (hp.1 (j - 1) (by omega)).2
              have := hne (j - 1) (by omega)
              exact (r2.2 (j - 1) (by omega)).fr (e13 _ (by omega) (by omega) (by omega)) (e13 _ (by omega) (by omega) (by omega))
      have w3 : wdIs I3 76 78 S.2.1.2.1 := r3.fr hv.2.1.2.1.1 (e13 _ (by omega) (by omega) (by omega)) (fun c _ _ => e13 _ (by omega) (by omega) (by omega))
      have rl3 : rlIs I3 86 87 88 S.2.1.2.2 := r4.fr (e13 _ (by omega) (by omega) (by omega)) (e13 _ (by omega) (by omega) (by omega)) (e13 _ (by omega) (by omega) (by omega))
      have hflag : I3 (6 + 7 * π S.2.1.1.length) 4 = 1 := by
        rw [e3 _ (by omega) (by omega), o3, u2_ne (Or.inl (by omega)), u2_same]
      have ph3 : phOK I3 := by
        intro p hp10
        by_cases q : p = π S.2.1.1.length
        · subst q; left; exact hflag
        · have ee : ∀ c, 6 + 7 * p ≤ c → c < 6 + 7 * p + 7 → I3 c = I c := fun c _ _ => e13 c (by omega) (by omega) (by omega)
          rcases r9 p hp10 with z | ⟨z, E, z1, z2⟩
          · left; rw [ee _ (by omega) (by omega)]; exact z
          · right; exact ⟨by rw [ee _ (by omega) (by omega)]; exact z, E, z1, z2.fr (ee _ (by omega) (by omega)) (ee _ (by omega) (by omega))⟩
      have hEv : ∀ j, stV (if j < kk then stAt S.2.1.2.1 S.2.1.1 (j + 1) else stAt S.2.1.2.1 S.2.1.1 j) := fun j => by split <;> exact stAt_ok _ _ _
      have pre := pre_moved (I2 := I3) (π' := opP π kk S.2.1.1.length) (first := kk) (last := kk) (ls' := S.2.1.1.take kk ++ S.1 :: S.2.1.1.drop kk) (nw := fun j => j == kk) (o := fun j => if j < kk then j else j - 1) (E := fun j => if j < kk then stAt S.2.1.2.1 S.2.1.1 (j + 1) else stAt S.2.1.2.1 S.2.1.1 j) rc
        (fun j hj hnw => by
          have hjk : j ≠ kk := by simpa using hnw
          by_cases q : j < kk
          · rw [if_pos q, if_pos q]
          · rw [if_neg q, if_neg q, show j - 1 + 1 = j by omega])
        (fun j hj => ⟨by rw [hlen]; omega, by simp; omega, if_pos hj, by rw [ins_getD (by omega), if_pos hj]⟩)
        (fun j hj hnw => by
          have hjk : j ≠ kk := by simpa using hnw
          rw [hlen] at hj
          exact ⟨by split <;> omega, hpi j hj hjk⟩)
        (fun j hj hnw c hc => by
          have hjk : j ≠ kk := by simpa using hnw
          rw [hlen] at hj
          rw [hpi j hj hjk] at hc
          have h10 := (hp.1 (if j < kk then j else j - 1) (by split <;> omega)).2
          have := hne (if j < kk then j else j - 1) (by split <;> omega)
          exact e13 c (by omega) (by omega) (by omega))
        (fun j hj hnw => by
          have hjk : j = kk := by simpa using hnw
          subst hjk; rw [hopk]; exact hflag)
        (fun j z1 z2 z3 hnw => by
          have hjk : j ≠ kk := by simpa using hnw
          refine ⟨by simp; omega, ?_, ?_⟩
          · rw [if_neg (by omega), if_neg (by omega)]; omega
          · rw [ins_getD (by omega), if_neg (by omega), if_neg (by omega), if_neg (by omega)]; congr 1; omega)
      obtain ⟨I4, t1, t2, t4⟩ := C_paint (J := J) (Z := (S.2.1.1.take kk ++ S.1 :: S.2.1.1.drop kk, S.2.1.2)) g' o2 (fun k hk => (hp.1 k hk).2) rc hv q1 q2 (I2 := I3) (fun c hc => by rw [e3 c (by omega) (by omega), e2 c (by omega) (by omega) (by omega)]) pg3 w3 rl3 hZ hEv (by omega) (by show kk ≤ (S.2.1.1.take kk ++ S.1 :: S.2.1.1.drop kk).length; omega) pre ph3 rfl
      refine ⟨_, Q', t1, Fr.tr (Fr.tr (S := fun c => 1 ≤ c ∧ c < 270) (Fr.tr (S := fun c => 1 ≤ c ∧ c < 270) (Fr.tr (S := fun c => 1 ≤ c ∧ c < 270) q2 (show Fr (fun c => c = 4 ∨ c = 6 + 7 * π S.2.1.1.length ∨ c = 6 + 7 * π S.2.1.1.length + 1) I1 I2 from fun c hc => e2 c (by omega) (by omega) (by omega)) (fun c z => by omega) (fun c z => by omega)) p2 (fun c z => z) (fun c z => by omega)) t2 (fun c z => z) (fun c z => by omega)) Fr_u2 (fun c z => z) (fun c z => by omega), fun c hc => o1 c hc, fun K => ?_⟩
      rw [hd]
      simp only [rX9_inserts_22, rX9_inserts_23, rX9_inserts_26, rX9_inserts_29, rX9_inserts_31, rX9_inserts_34, rX9_inserts_35, rX9_inserts_37, rX9_inserts_40, rX9_inserts_41, rX9_inserts_42, rX9_inserts_45, rX9_inserts_46, rX9_inserts_49, a1, a3, a4, h1, rf_some, c1, r2.1, true_and]
      rw [if_pos (show nI S.2.1.1.length < 10 from nI_lt hlt (by decide)), q3]
      simp only [tl_none, rX9_inserts_52, rX9_inserts_53, rX9_inserts_56, rX9_inserts_57, a1, a3, c1, rf_some, true_and]
      rw [o4]
      have hq5 := (o2.1 kk (by omega)).1
      rw [hopk] at hq5
      simp only [tl_none, rX9_inserts_60, rX9_inserts_61, rX9_inserts_64, rX9_inserts_67, rX9_inserts_68, rX9_inserts_69, rX9_inserts_72, rX9_inserts_73, rX9_inserts_76, a1', a2', a3', c1', c2', c6', rf_some, true_and, true_or, vin_nI (show kk < 10 by omega) (by decide), nI_clamp (show kk < 2 ^ 31 by omega), hq5, lk.1, lk.2.1, lk.2.2.2.2.2.1.1]
      rw [p3]
      simp only [tl_none, rX9_inserts_79, rX9_inserts_80, rX9_inserts_81, rX9_inserts_84, rX9_inserts_85, rX9_inserts_86, a1', a3', c1', rf_some, true_and]
      rw [t4]
      have e44 : ∀ x, u2 I4 1 4 x 4 4 = nI (S.2.1.1.length + 1) := fun x => by rw [u2_ne (Or.inl (by decide)), t2 4 (by omega), pg3.1, hlen]
      simp only [tl_some, rX9_inserts_89, rX9_inserts_92, rX9_inserts_93, rX9_inserts_96, rX9_inserts_99, a1', a3', c1', rf_some, true_and, e44]
  · rw [if_pos hk]
    refine CA.bad cs (fun K => ?_)
    simp only [rX9_inserts_0, rX9_inserts_1, rX9_inserts_4, rX9_inserts_5, rX9_inserts_6, rX9_inserts_9, rX9_inserts_12, rX9_inserts_15, rX9_inserts_16, rX9_inserts_18, rX9_inserts_21, a1, a3, rf_some, c1, r2.1, true_and, rfB g, tl_some]
    by_cases q1 : k < 0
    · rw [if_pos q1]
    · rw [if_neg q1, if_neg (fun z => hk (hle.mpr ⟨q1, Int32.not_lt.mpr z⟩))]
theorem C_drops {k : Int32} (cs : CS w I Q S) : CA w I Q J mX9_drops [.ref 1, .int k] (.int (sp_drops k S).1) (sp_drops k S).2 := by
  obtain ⟨g, hv, π, nx, hp, rc⟩ := id cs
  obtain ⟨⟨a1, a2, a3, a4, a5⟩, b1, ⟨c1, c2, c3, c4, c5, c6⟩, lns, pn, rl, ⟨h1, h2, h3, h4⟩, -⟩ := id g
  obtain ⟨r1, r2, r3, r4, r5, r6, r7, r8, r9⟩ := id rc
  have hl10 := hv.2.1.1.1
  unfold sp_drops
  by_cases hk : inR k S.2.1.1.length
  · rw [if_neg (fun z => z hk)]
    obtain ⟨kk, hkk, rfl⟩ := inR_of (by omega) hk
    rw [nI_clamp (show kk < 2 ^ 31 by omega)]
    obtain ⟨I1, nx', q1, q2, q3⟩ := C_keep (J := J) g hp rc hv
    have e1 : ∀ c, (c < 92 ∨ 269 ≤ c) → I1 c = I c := fun c q => q2 c (by omega)
    obtain ⟨Q', o1, o2, o4⟩ := c_closeLine (I := I1) (J := J) (k := kk) g hp (ls := S.2.1.1) (by rw [e1 4 (by omega)]; exact r2.1) hl10 hkk
    have g' : gOK w Q' := g.q o1
    obtain ⟨⟨a1', a2', a3', a4', a5'⟩, b1', ⟨c1', c2', c3', c4', c5', c6'⟩, lns', -, -, ⟨h1', -⟩, -⟩ := id g'
    have e2 : ∀ c, c ≠ 4 → u2 I1 4 4 (nI (S.2.1.1.length - 1)) c = I1 c := fun c z => Fr_u2 c z
    have e13 : ∀ c, (c < 92 ∨ 269 ≤ c) → c ≠ 4 → u2 I1 4 4 (nI (S.2.1.1.length - 1)) c = I c := fun c q1 q2 => (e2 c q2).trans (e1 c q1)
    have hlen : (S.2.1.1.eraseIdx kk).length = S.2.1.1.length - 1 := List.length_eraseIdx_of_lt hkk
    have hget : ∀ j, (S.2.1.1.eraseIdx kk).getD j [] = S.2.1.1.getD (if j < kk then j else j + 1) [] := by
      intro j
      simp only [List.getD_eq_getElem?_getD, List.getElem?_eraseIdx]
      split <;> rfl
    have hZ : zV (S.2.1.1.eraseIdx kk, S.2.1.2) := by
      refine ⟨⟨by show (S.2.1.1.eraseIdx kk).length ≤ 10; omega, fun j hj => ?_⟩, hv.2.1.2⟩
      have hj : j < S.2.1.1.length - 1 := by rw [← hlen]; exact hj
      show ((S.2.1.1.eraseIdx kk).getD j []).length ≤ 30
      rw [hget]
      exact hv.2.1.1.2 _ (by split <;> omega)
    have hpi : ∀ j, j < S.2.1.1.length - 1 → clP π kk S.2.1.1.length j = π (if j < kk then j else j + 1) := by
      intro j hj
      unfold clP
      rw [if_neg (by omega)]
      by_cases q : j < kk
      · rw [if_neg (by omega), if_pos q]
      · rw [if_pos (by omega), if_neg q]
    have pg3 : pgIs (u2 I1 4 4 (nI (S.2.1.1.length - 1))) (clP π kk S.2.1.1.length) (S.2.1.1.eraseIdx kk) := by
      refine ⟨by rw [u2_same, hlen], fun j hj => ?_⟩
      rw [hlen] at hj
      rw [hget, hpi j hj]
      have h10 := (hp.1 (if j < kk then j else j + 1) (by split <;> omega)).2
      exact (r2.2 (if j < kk then j else j + 1) (by split <;> omega)).fr (e13 _ (by omega) (by omega)) (e13 _ (by omega) (by omega))
    have w3 : wdIs (u2 I1 4 4 (nI (S.2.1.1.length - 1))) 76 78 S.2.1.2.1 := r3.fr hv.2.1.2.1.1 (e13 _ (by omega) (by omega)) (fun c _ _ => e13 _ (by omega) (by omega))
    have rl3 : rlIs (u2 I1 4 4 (nI (S.2.1.1.length - 1))) 86 87 88 S.2.1.2.2 := r4.fr (e13 _ (by omega) (by omega)) (e13 _ (by omega) (by omega)) (e13 _ (by omega) (by omega))
    have ph3 : phOK (u2 I1 4 4 (nI (S.2.1.1.length - 1))) := r9.fr (fun c _ _ => e13 c (by omega) (by omega))
    have hEv : ∀ j, stV (if j < kk then stAt S.2.1.2.1 S.2.1.1 (j + 1) else stAt S.2.1.2.1 S.2.1.1 (j + 2)) := fun j => by split <;> exact stAt_ok _ _ _
    have pre := pre_moved (I2 := u2 I1 4 4 (nI (S.2.1.1.length - 1))) (π' := clP π kk S.2.1.1.length) (first := kk) (last := kk) (ls' := S.2.1.1.eraseIdx kk) (nw := fun _ => false) (o := fun j => if j < kk then j else j + 1) (E := fun j => if j < kk then stAt S.2.1.2.1 S.2.1.1 (j + 1) else stAt S.2.1.2.1 S.2.1.1 (j + 2)) rc
      (fun j hj hnw => by
        by_cases q : j < kk
        · rw [if_pos q, if_pos q]
        · rw [if_neg q, if_neg q])
      (fun j hj => ⟨by rw [hlen]; omega, rfl, if_pos hj, by rw [hget, if_pos hj]⟩)
      (fun j hj hnw => by
        rw [hlen] at hj
        exact ⟨by split <;> omega, hpi j hj⟩)
      (fun j hj hnw c hc => by
        rw [hlen] at hj
        rw [hpi j hj] at hc
        have h10 := (hp.1 (if j < kk then j else j + 1) (by split <;> omega)).2
        exact e13 c (by omega) (by omega))
      (fun j hj hnw => by cases hnw)
      (fun j z1 z2 z3 hnw => by
        refine ⟨rfl, ?_, ?_⟩
        · rw [if_neg (by omega), if_neg (by omega)]
        · rw [hget, if_neg (by omega), if_neg (by omega)])
    obtain ⟨I4, t1, t2, t4⟩ := C_paint (J := J) (Z := (S.2.1.1.eraseIdx kk, S.2.1.2)) g' o2 (fun k hk => (hp.1 k hk).2) rc hv q1 q2 (I2 := u2 I1 4 4 (nI (S.2.1.1.length - 1))) (fun c hc => e2 c (by omega)) pg3 w3 rl3 hZ hEv (by omega) (by show kk ≤ (S.2.1.1.eraseIdx kk).length; omega) pre ph3 rfl
    refine ⟨_, Q', t1, Fr.tr (Fr.tr (S := fun c => 1 ≤ c ∧ c < 270) (Fr.tr (S := fun c => 1 ≤ c ∧ c < 270) q2 Fr_u2 (fun c z => by omega) (fun c z => by omega)) t2 (fun c z => z) (fun c z => by omega)) Fr_u2 (fun c z => z) (fun c z => by omega), fun c hc => o1 c hc, fun K => ?_⟩
    simp only [rX9_drops_0, rX9_drops_1, rX9_drops_4, rX9_drops_5, a1, a3, rf_some, c1, true_and]
    rw [c_hasLine g r2.1 hl10, if_pos hk]
    simp only [tl_some, rX9_drops_8, rX9_drops_11, rX9_drops_12, rX9_drops_14, rX9_drops_17, rX9_drops_18, rX9_drops_19, rX9_drops_22, rX9_drops_23, rX9_drops_26, a1, a3, a4, h1, rf_some, true_and]
    rw [if_pos (by decide), q3]
    simp only [tl_none, rX9_drops_29, rX9_drops_30, rX9_drops_33, rX9_drops_34, a1, a3, c1, rf_some, true_and]
    rw [o4]
    simp only [tl_none, rX9_drops_37, rX9_drops_38, rX9_drops_39, rX9_drops_42, rX9_drops_43, rX9_drops_44, a1', a3', c1', rf_some, true_and]
    rw [t4]
    have e44 : ∀ x, u2 I4 1 4 x 4 4 = nI (S.2.1.1.length - 1) := fun x => by rw [u2_ne (Or.inl (by decide)), t2 4 (by omega), pg3.1, hlen]
    simp only [tl_some, rX9_drops_47, rX9_drops_50, rX9_drops_51, rX9_drops_54, rX9_drops_57, a1', a3', c1', rf_some, true_and, e44]
  · rw [if_pos hk]
    refine CA.bad cs (fun K => ?_)
    simp only [rX9_drops_0, rX9_drops_1, rX9_drops_4, rX9_drops_5, a1, a3, rf_some, c1, true_and]
    rw [c_hasLine g r2.1 hl10, if_neg hk]
    simp only [tl_some, rX9_drops_8, rX9_drops_11, rX9_drops_12, rX9_drops_14, rX9_drops_17, a1, true_and, rfB g]
    rw [if_neg (by decide)]
theorem spl_getD {ls : List (List Int32)} {k i j : Nat} (hk : k < ls.length) : (splL ls k i).getD j [] = if j < k then ls.getD j [] else if j = k then (ls.getD k []).take i else if j = k + 1 then (ls.getD k []).drop i else ls.getD (j - 1) [] := by
  unfold splL
  simp only [List.getD_eq_getElem?_getD]
  by_cases h1 : j < k
  · rw [if_pos h1, List.getElem?_append_left (by simp; omega), List.getElem?_take_of_lt h1]
  · rw [if_neg h1, List.getElem?_append_right (by simp; omega)]
    simp only [List.length_take, Nat.min_eq_left (Nat.le_of_lt hk)]
    by_cases h2 : j = k
    · subst h2; simp
    · rw [if_neg h2]
      by_cases h3 : j = k + 1
      · subst h3; rw [show k + 1 - k = 1 by omega]; simp
      · rw [if_neg h3]
        obtain ⟨e, rfl⟩ : ∃ e, j = k + 2 + e := ⟨j - (k + 2), by omega⟩
        rw [show k + 2 + e - k = e + 1 + 1 by omega, List.getElem?_cons_succ, List.getElem?_cons_succ, List.getElem?_drop]
        congr 2
        omega
theorem spl_len {ls : List (List Int32)} {k i : Nat} (hk : k < ls.length) : (splL ls k i).length = ls.length + 1 := by unfold splL; simp; omega
theorem C_splits {k i : Int32} (cs : CS w I Q S) : CA w I Q J mX9_splits [.ref 1, .int k, .int i] (.int (sp_splits k i S).1) (sp_splits k i S).2 := by
  obtain ⟨g, hv, π, nx, hp, rc⟩ := id cs
  obtain ⟨⟨a1, a2, a3, a4, a5⟩, b1, ⟨c1, c2, c3, c4, c5, c6⟩, lns, pn, rl, ⟨h1, h2, h3, h4⟩, -⟩ := id g
  obtain ⟨r1, r2, r3, r4, r5, r6, r7, r8, r9⟩ := id rc
  have hl10 := hv.2.1.1.1
  unfold sp_splits
  by_cases hk : inR k S.2.1.1.length
  · obtain ⟨kk, hkk, rfl⟩ := inR_of (by omega) hk
    rw [nI_clamp (show kk < 2 ^ 31 by omega)]
    have hl30 := hv.2.1.1.2 kk hkk
    have hk10 : kk < 10 := by omega
    have hpk := hp.1 kk hk10
    have lk0 := lns (π kk) hpk.2
    have hleN := leN (i := i) (n := (S.2.1.1.getD kk []).length) (by omega)
    have hd : ∀ {K : Option Value → WS → HS → Prop}, WP mX9_splits 0 [.ref 1, .int (nI kk), .int i] [] w (I, Q, J) K ↔ if i < 0 then WP mX9_splits 34 [.ref 1, .int (nI kk), .int i] [] w (I, Q, J) K else if i ≤ nI (S.2.1.1.getD kk []).length then WP mX9_splits 41 [.ref 1, .int (nI kk), .int i] [] w (I, Q, J) K else WP mX9_splits 34 [.ref 1, .int (nI kk), .int i] [] w (I, Q, J) K := by
      intro K
      simp only [rX9_splits_0, rX9_splits_1, rX9_splits_4, rX9_splits_5, a1, a3, rf_some, c1, true_and]
      rw [c_hasLine g r2.1 hl10, if_pos hk]
      simp only [tl_some, rX9_splits_8, rX9_splits_11, rX9_splits_12, rX9_splits_15, rX9_splits_16, rX9_splits_17, rX9_splits_20, rX9_splits_23, rX9_splits_24, rX9_splits_25, rX9_splits_28, rX9_splits_31, a1, a3, c1, c2, c6, rf_some, true_and, true_or, vin_nI hk10 (by decide), nI_clamp (show kk < 2 ^ 31 by omega), hpk.1, lk0.1, lk0.2.1, lk0.2.2.2.2.2.1.1, (r2.2 kk hkk).1]
      rw [if_neg (by decide)]
    by_cases hi : inR i ((S.2.1.1.getD kk []).length + 1)
    · rw [if_neg (fun z => z ⟨hk, hi⟩)]
      obtain ⟨z1, z2⟩ := hleN.mp hi
      obtain ⟨ii, hii, rfl⟩ := inR_of (by omega) hi
      rw [nI_clamp (show ii < 2 ^ 31 by omega)]
      have hd2 : ∀ {K : Option Value → WS → HS → Prop}, WP mX9_splits 0 [.ref 1, .int (nI kk), .int (nI ii)] [] w (I, Q, J) K ↔ WP mX9_splits 41 [.ref 1, .int (nI kk), .int (nI ii)] [] w (I, Q, J) K := by
        intro K
        rw [hd, if_neg z1, if_pos (nI_le (by omega) (by omega))]
      by_cases hf : S.2.1.1.length = 10
      · rw [if_pos hf]
        refine CA.full cs (fun K => ?_)
        rw [hd2]
        simp only [rX9_splits_41, rX9_splits_42, rX9_splits_45, rX9_splits_48, rX9_splits_50, rX9_splits_53, rX9_splits_54, rX9_splits_56, rX9_splits_59, a1, a3, rf_some, c1, r2.1, true_and, rfF g, tl_some]
        rw [if_neg (show ¬ nI S.2.1.1.length < 10 from nI_nlt (show 10 ≤ S.2.1.1.length by omega) (by omega))]
      · rw [if_neg hf]
        have hlt : S.2.1.1.length < 10 := by omega
        have hpn := (hp.1 S.2.1.1.length hlt)
        have hnk : π kk ≠ π S.2.1.1.length := fun z => by have := hp.2 kk S.2.1.1.length (by omega) hlt z; omega
        obtain ⟨I1, nx', q1, q2, q3⟩ := C_keep (J := J) g hp rc hv
        have e1 : ∀ c, (c < 92 ∨ 269 ≤ c) → I1 c = I c := fun c q => q2 c (by omega)
        obtain ⟨I2, Q', o1, o2, o3, o4⟩ := c_openLine (I := I1) (J := J) (k := kk + 1) g hp (ls := S.2.1.1) (by rw [e1 4 (by omega)]; exact r2.1) hlt (by omega)
        have g' : gOK w Q' := g.q o1
        have e2 : ∀ c, c ≠ 4 → c ≠ 6 + 7 * π S.2.1.1.length → c ≠ 6 + 7 * π S.2.1.1.length + 1 → I2 c = I1 c := fun c z1 z2 z3 => by
          rw [o3, Fr_u2 c z1, Fr_u2 c z2, Fr_u2 c z3]
        have hopk : opP π (kk + 1) S.2.1.1.length (kk + 1) = π S.2.1.1.length := by unfold opP; rw [if_pos rfl]
        have hopk0 : opP π (kk + 1) S.2.1.1.length kk = π kk := by unfold opP; rw [if_neg (by omega), if_neg (by omega)]
        obtain ⟨⟨a1', a2', a3', a4', a5'⟩, b1', ⟨c1', c2', c3', c4', c5', c6'⟩, lns', -, -, ⟨h1', -⟩, -⟩ := id g'
        have lk := lns' (π S.2.1.1.length) hpn.2
        have lkk := lns' (π kk) hpk.2
        have hrow : rowIs I2 (6 + 7 * π kk + 1) (6 + 7 * π kk + 2) (S.2.1.1.getD kk []) := ((r2.2 kk hkk).fr (e1 _ (by omega)) (e1 _ (by omega))).fr (e2 _ (by omega) (by omega) (by omega)) (e2 _ (by omega) (by omega) (by omega))
        obtain ⟨I3, p1, p1b, p2, p3⟩ := c_rowTail (I := I2) (J := J) (i := ii) lkk.2.2.2.2.2.1 hrow (by omega) hl30 lk.2.2.2.2.2.1 hl30 (by omega)
        have e3 : ∀ c, c ≠ 6 + 7 * π kk + 1 → c ≠ 6 + 7 * π S.2.1.1.length + 1 → c ≠ 6 + 7 * π S.2.1.1.length + 2 → I3 c = I2 c := fun c z1 z2 z3 => p2 c (by omega)
        have e13 : ∀ c, (c < 92 ∨ 269 ≤ c) → c ≠ 4 → c ≠ 6 + 7 * π kk + 1 → (c < 6 + 7 * π S.2.1.1.length ∨ 6 + 7 * π S.2.1.1.length + 2 < c) → I3 c = I c := fun c q1 q2 q3 q4 => by
          rw [e3 c q3 (by omega) (by omega), e2 c q2 (by omega) (by omega), e1 c q1]
        have hlen := spl_len (ls := S.2.1.1) (k := kk) (i := ii) hkk
        have hZ : zV (splL S.2.1.1 kk ii, S.2.1.2) := by
          refine ⟨⟨by show (splL S.2.1.1 kk ii).length ≤ 10; omega, fun j hj => ?_⟩, hv.2.1.2⟩
          have hj : j < S.2.1.1.length + 1 := by rw [← hlen]; exact hj
          show ((splL S.2.1.1 kk ii).getD j []).length ≤ 30
          rw [spl_getD hkk]
          split
          · exact hv.2.1.1.2 j (by omega)
          · split
            · rw [List.length_take]; omega
            · split
              · rw [List.length_drop]; omega
              · exact hv.2.1.1.2 (j - 1) (by omega)
        have hpi : ∀ j, j < S.2.1.1.length + 1 → j ≠ kk + 1 → opP π (kk + 1) S.2.1.1.length j = π (if j ≤ kk then j else j - 1) := by
          intro j hj hjk
          unfold opP
          rw [if_neg hjk]
          by_cases q : j ≤ kk
          · rw [if_neg (by omega), if_pos q]
          · rw [if_pos (by omega), if_neg q]
        have hne : ∀ j, j < S.2.1.1.length → π j ≠ π S.2.1.1.length := fun j hj z => by have := hp.2 j S.2.1.1.length (by omega) hlt z; omega
        have hnek : ∀ j, j < S.2.1.1.length → j ≠ kk → π j ≠ π kk := fun j hj hjk z => hjk (hp.2 j kk (by omega) hk10 z)
        have pg3 : pgIs I3 (opP π (kk + 1) S.2.1.1.length) (splL S.2.1.1 kk ii) := by
          refine ⟨?_, fun j hj => ?_⟩
          · rw [e3 4 (by omega) (by omega) (by omega), o3, u2_same, hlen]
          · rw [hlen] at hj
            rw [spl_getD hkk]
            by_cases q : j = kk + 1
            · subst q; rw [hopk, if_neg (by omega), if_neg (by omega), if_pos rfl]; exact p1b
            · rw [hpi j hj q]
              by_cases q2 : j < kk
              · rw [if_pos q2, if_pos (by omega)]
                have h10 := (hp.1 j (by omega)).2
                have := hne j (by omega)
                have := hnek j (by omega) (by omega)
                exact (r2.2 j (by omega)).fr (e13 _ (by omega) (by omega) (by omega) (by omega)) (e13 _ (by omega) (by omega) (by omega) (by omega))
              · by_cases q3 : j = kk
                · subst q3; rw [if_neg q2, if_pos rfl, if_pos (Nat.le_refl _)]; exact p1
                · rw [if_neg q2, if_neg q3, if_neg q, if_neg (by omega)]
                  have h10 := (hp.1 (j - 1) (by omega)).2
                  have := hne (j - 1) (by omega)
                  have := hnek (j - 1) (by omega) (by omega)
                  exact (r2.2 (j - 1) (by omega)).fr (e13 _ (by omega) (by omega) (by omega) (by omega)) (e13 _ (by omega) (by omega) (by omega) (by omega))
        have w3 : wdIs I3 76 78 S.2.1.2.1 := r3.fr hv.2.1.2.1.1 (e13 _ (by omega) (by omega) (by omega) (by omega)) (fun c _ _ => e13 _ (by omega) (by omega) (by omega) (by omega))
        have rl3 : rlIs I3 86 87 88 S.2.1.2.2 := r4.fr (e13 _ (by omega) (by omega) (by omega) (by omega)) (e13 _ (by omega) (by omega) (by omega) (by omega)) (e13 _ (by omega) (by omega) (by omega) (by omega))
        have hflag : I3 (6 + 7 * π S.2.1.1.length) 4 = 1 := by
          rw [e3 _ (by omega) (by omega) (by omega), o3, u2_ne (Or.inl (by omega)), u2_same]
        have ph3 : phOK I3 := by
          intro p hp10
          by_cases q : p = π S.2.1.1.length
          · subst q; left; exact hflag
          · have ee : ∀ c, 6 + 7 * p ≤ c → c < 6 + 7 * p + 7 → c ≠ 6 + 7 * p + 1 → I3 c = I c := fun c _ _ _ => e13 c (by omega) (by omega) (by omega) (by omega)
            rcases r9 p hp10 with z | ⟨z, E, z1, z2⟩
            · left; rw [ee _ (by omega) (by omega) (by omega)]; exact z
            · right; exact ⟨by rw [ee _ (by omega) (by omega) (by omega)]; exact z, E, z1, z2.fr (ee _ (by omega) (by omega) (by omega)) (ee _ (by omega) (by omega) (by omega))⟩
        have hEv : ∀ j, stV (if j ≤ kk then stAt S.2.1.2.1 S.2.1.1 (j + 1) else stAt S.2.1.2.1 S.2.1.1 j) := fun j => by split <;> exact stAt_ok _ _ _
        have pre := pre_moved (I2 := I3) (π' := opP π (kk + 1) S.2.1.1.length) (first := kk) (last := kk + 1) (ls' := splL S.2.1.1 kk ii) (nw := fun j => j == kk + 1) (o := fun j => if j ≤ kk then j else j - 1) (E := fun j => if j ≤ kk then stAt S.2.1.2.1 S.2.1.1 (j + 1) else stAt S.2.1.2.1 S.2.1.1 j) rc
          (fun j hj hnw => by
            have hjk : j ≠ kk + 1 := by simpa using hnw
            by_cases q : j ≤ kk
            · rw [if_pos q, if_pos q]
            · rw [if_neg q, if_neg q, show j - 1 + 1 = j by omega])
          (fun j hj => ⟨by rw [hlen]; omega, by simp; omega, if_pos (by omega), by rw [spl_getD hkk, if_pos hj]⟩)
          (fun j hj hnw => by
            have hjk : j ≠ kk + 1 := by simpa using hnw
            rw [hlen] at hj
            exact ⟨by split <;> omega, hpi j hj hjk⟩)
          (fun j hj hnw c hc => by
            have hjk : j ≠ kk + 1 := by simpa using hnw
            rw [hlen] at hj
            rw [hpi j hj hjk] at hc
            have h10 := (hp.1 (if j ≤ kk then j else j - 1) (by split <;> omega)).2
            have := hne (if j ≤ kk then j else j - 1) (by split <;> omega)
            exact e13 c (by omega) (by omega) (by omega) (by omega))
          (fun j hj hnw => by
            have hjk : j = kk + 1 := by simpa using hnw
            subst hjk; rw [hopk]; exact hflag)
          (fun j z1 z2 z3 hnw => by
            have hjk : j ≠ kk + 1 := by simpa using hnw
            refine ⟨by simp; omega, ?_, ?_⟩
            · rw [if_neg (by omega), if_neg (by omega)]; omega
            · rw [spl_getD hkk, if_neg (by omega), if_neg (by omega), if_neg (by omega), if_neg (by omega)]; congr 1; omega)
        obtain ⟨I4, t1, t2, t4⟩ := C_paint (J := J) (Z := (splL S.2.1.1 kk ii, S.2.1.2)) g' o2 (fun k hk => (hp.1 k hk).2) rc hv q1 q2 (I2 := I3) (fun c hc => by rw [e3 c (by omega) (by omega) (by omega), e2 c (by omega) (by omega) (by omega)]) pg3 w3 rl3 hZ hEv (by omega) (by show kk ≤ (splL S.2.1.1 kk ii).length; omega) pre ph3 rfl
        refine ⟨_, Q', t1, Fr.tr (Fr.tr (S := fun c => 1 ≤ c ∧ c < 270) (Fr.tr (S := fun c => 1 ≤ c ∧ c < 270) (Fr.tr (S := fun c => 1 ≤ c ∧ c < 270) q2 (show Fr (fun c => c = 4 ∨ c = 6 + 7 * π S.2.1.1.length ∨ c = 6 + 7 * π S.2.1.1.length + 1) I1 I2 from fun c hc => e2 c (by omega) (by omega) (by omega)) (fun c z => by omega) (fun c z => by omega)) p2 (fun c z => z) (fun c z => by omega)) t2 (fun c z => z) (fun c z => by omega)) Fr_u2 (fun c z => z) (fun c z => by omega), fun c hc => o1 c hc, fun K => ?_⟩
        rw [hd2]
        simp only [rX9_splits_41, rX9_splits_42, rX9_splits_45, rX9_splits_48, rX9_splits_50, rX9_splits_53, rX9_splits_54, rX9_splits_56, rX9_splits_59, rX9_splits_60, rX9_splits_61, rX9_splits_64, rX9_splits_65, rX9_splits_68, a1, a3, a4, h1, rf_some, c1, r2.1, true_and]
        rw [if_pos (show nI S.2.1.1.length < 10 from nI_lt hlt (by decide)), q3]
        simp only [tl_none, rX9_splits_71, rX9_splits_72, rX9_splits_75, rX9_splits_76, rX9_splits_77, rX9_splits_78, a1, a3, c1, rf_some, true_and, nI_1]
        rw [o4]
        have hq5 := (o2.1 (kk + 1) (by omega)).1
        rw [hopk] at hq5
        have hq6 := (o2.1 kk (by omega)).1
        rw [hopk0] at hq6
        simp only [tl_none, rX9_splits_81, rX9_splits_82, rX9_splits_85, rX9_splits_88, rX9_splits_89, rX9_splits_90, rX9_splits_93, rX9_splits_94, rX9_splits_95, rX9_splits_98, rX9_splits_101, rX9_splits_102, rX9_splits_103, rX9_splits_104, rX9_splits_105, rX9_splits_108, a1', a2', a3', c1', c2', c6', rf_some, true_and, true_or, nI_1, vin_nI (show kk < 10 by omega) (by decide), vin_nI (show kk + 1 < 10 by omega) (by decide), nI_clamp (show kk < 2 ^ 31 by omega), nI_clamp (show kk + 1 < 2 ^ 31 by omega), hq5, hq6, lk.1, lk.2.1, lkk.1, lkk.2.1, lkk.2.2.2.2.2.1.1]
        rw [p3]
        simp only [tl_none, rX9_splits_111, rX9_splits_112, rX9_splits_113, rX9_splits_116, rX9_splits_117, rX9_splits_118, rX9_splits_119, rX9_splits_120, a1', a3', c1', rf_some, true_and, nI_1]
        rw [t4]
        have e44 : ∀ x, u2 I4 1 4 x 4 4 = nI (S.2.1.1.length + 1) := fun x => by rw [u2_ne (Or.inl (by decide)), t2 4 (by omega), pg3.1, hlen]
        simp only [tl_some, rX9_splits_123, rX9_splits_126, rX9_splits_127, rX9_splits_130, rX9_splits_133, a1', a3', c1', rf_some, true_and, e44]
    · rw [if_pos (fun z => hi z.2)]
      refine CA.bad cs (fun K => ?_)
      have fin : WP mX9_splits 34 [.ref 1, .int (nI kk), .int i] [] w (I, Q, J) K ↔ K (some (.int (-2))) w (u2 I 269 0 (I 269 0 + 1), Q, J) := by
        simp only [rX9_splits_34, rX9_splits_35, rX9_splits_37, rX9_splits_40, a1, true_and, rfB g, tl_some]
      rw [hd, ← fin]
      by_cases q1 : i < 0
      · rw [if_pos q1]
      · rw [if_neg q1, if_neg (fun z => hi (hleN.mpr ⟨q1, Int32.not_lt.mpr z⟩))]
  · rw [if_pos (fun z => hk z.1)]
    refine CA.bad cs (fun K => ?_)
    simp only [rX9_splits_0, rX9_splits_1, rX9_splits_4, rX9_splits_5, a1, a3, rf_some, c1, true_and]
    rw [c_hasLine g r2.1 hl10, if_neg hk]
    simp only [tl_some, rX9_splits_8, rX9_splits_34, rX9_splits_35, rX9_splits_37, rX9_splits_40, a1, true_and, rfB g, if_true]
end C5
