section MF
variable {w : WS} {I : Nat → Nat → Int32} {Q : Nat → Nat → Option Nat} {J : Nat → Nat → Int64} {K : Option Value → WS → HS → Prop} {S : SP}
theorem nowIs.wd {N N' : Nat → Int32} {ls W W' : List (List Int32)} {R : List RU} (h : nowIs N (ls, W, R)) (hl : lsV ls) (e : ∀ z, z ≠ 1 → z < 313 ∨ 337 ≤ z → N' z = N z) (h1 : N' 1 = nI W'.length) (hw : ∀ k, k < W'.length → wdM N' k (W'.getD k [])) : nowIs N' (ls, W', R) := by
  obtain ⟨⟨a1, a2, a3⟩, a4, a5, a6⟩ := h
  have h10 := hl.1
  refine ⟨⟨by rw [e 0 (by omega) (by omega)]; exact a1, h1, by rw [e 2 (by omega) (by omega)]; exact a3⟩, fun k hk => ⟨by rw [e _ (by omega) (by have : k < ls.length := hk; omega)]; exact (a4 k hk).1, fun i hi => ?_⟩, hw, fun k hk => ⟨by rw [e _ (by omega) (by omega)]; exact (a6 k hk).1, by rw [e _ (by omega) (by omega)]; exact (a6 k hk).2.1, by rw [e _ (by omega) (by omega)]; exact (a6 k hk).2.2⟩⟩
  have hk' : k < ls.length := hk
  have := hl.2 k hk
  have hi' : i < (ls.getD k []).length := hi
  rw [e _ (by omega) (by omega)]; exact (a4 k hk).2 i hi
theorem N_rewords {W' : List (List Int32)} {I1 I2 : Nat → Nat → Int32} (ms : MS w I Q S) (hv : SV S) (a1 : pastIs I1 ((S.2.1 :: S.2.2.1).take 5)) (a2 : ∀ c, c ≠ 270 → c ≠ 272 → c ≠ 278 → c ≠ 279 → I1 c = I c) (a3 : ∀ f, f ≠ 2 → I1 270 f = I 270 f) (a4 : ∀ j, j < 10 → I1 278 j = I 277 j ∧ I1 279 j = nI j) (hW : wdV W') (e : ∀ z, z ≠ 1 → z < 313 ∨ 337 ≤ z → I2 271 z = I1 271 z) (h1 : I2 271 1 = nI W'.length) (hw : ∀ k, k < W'.length → wdM (I2 271) k (W'.getD k [])) (b3 : ∀ c, c ≠ 271 → I2 c = I1 c) : ∃ I3, MS w I3 Q (chS S (S.2.1.1, W', S.2.1.2.2) S.2.1.1.length) ∧ Fr (fun c => 270 ≤ c ∧ c < 280) I I3 ∧ I3 271 = I2 271 ∧ ∀ K, (WP mX10_changes 0 [.ref 270, .int (nI 0), .int (nI S.2.1.1.length), .null, .null] [] w (I2, Q, J) K ↔ K none w (I3, Q, J)) := by
  obtain ⟨ok, c2, c3, c4, c5, c6, c7⟩ := id ms
  have h10 := hv.2.1.1.1
  have e271 : I1 271 = I 271 := a2 271 (by decide) (by decide) (by decide) (by decide)
  have hnow : nowIs (I2 271) (S.2.1.1, W', S.2.1.2.2) := nowIs.wd (N := I 271) (W := S.2.1.2.1) c2 hv.2.1.1 (fun z z1 z2 => by rw [e z z1 z2, e271]) h1 hw
  exact N_ch (J := J) (Z := (S.2.1.1, W', S.2.1.2.2)) (first := 0) (last := S.2.1.1.length) (nw := fun _ => false) (E := fun j => stAt S.2.1.2.1 S.2.1.1 (j + 1)) ms a1 a2 a3 (I2 := I2) (fun c z1 z2 => b3 c z1) ⟨hv.2.1.1, hW, hv.2.1.2.2⟩ hnow h10 (Nat.zero_le _) (fun j => stAt_ok _ _ _) (fun j h1 h2 => by
    have hj : j < S.2.1.1.length := h2
    unfold wasM
    rw [if_neg (by simp)]
    exact ⟨j, by omega, by rw [b3 279 (by decide)]; exact (a4 j (by omega)).2, by rw [b3 278 (by decide), (a4 j (by omega)).1, (c7 j hj).2]⟩) (anew_all S.2.1.1.length 0 (Nat.le_refl _)).symm
theorem M_isTW_loop {T : List Int32} (ok : mOK w Q) (hT : T.length ≤ 30) (tx : txIs I T) : ∀ n i (b : Bool), n + i = T.length → (WP mX10_isTextWord 12 [.ref 270, .int (if b then 1 else 0), .int (nI i)] [] w (I, Q, J) K ↔ K (some (.int (if b = true ∧ ∀ c ∈ T.drop i, isL c then 1 else 0))) w (I, Q, J)) := by
  obtain ⟨o, ⟨q0, q1, q3, q4, q7, q8, q9, q10, q11⟩, w1, w2, w3, w4, -⟩ := id ok
  intro n
  induction n with
  | zero =>
    intro i b hi
    rw [rX10_isTextWord_12]
    simp only [rX10_isTextWord_13, rX10_isTextWord_14, rX10_isTextWord_17, rX10_isTextWord_48, rX10_isTextWord_49, o, true_and, tx.1]
    rw [if_pos (nI_le (by omega) (by omega)), List.drop_eq_nil_of_le (by omega)]
    cases b <;> simp
  | succ n ih =>
    intro i b hi
    have hil : i < T.length := by omega
    have hd : T.drop i = T.getD i 0 :: T.drop (i + 1) := by
      rw [List.drop_eq_getElem_cons hil, List.getD_eq_getElem?_getD, List.getElem?_eq_getElem hil]; rfl
    rw [rX10_isTextWord_12]
    simp only [rX10_isTextWord_13, rX10_isTextWord_14, rX10_isTextWord_17, rX10_isTextWord_20, rX10_isTextWord_21, rX10_isTextWord_24, rX10_isTextWord_25, rX10_isTextWord_28, rX10_isTextWord_29, rX10_isTextWord_30, o, q4, w4, rf_some, true_and, tx.1, vin_nI (show i < 30 by omega) (by decide), nI_clamp (show i < 2 ^ 31 by omega), tx.2 i hil, M_isLetter, tl_some]
    rw [if_neg (nI_ge hil (by omega))]
    simp only [rX10_isTextWord_33, rX10_isTextWord_36, rX10_isTextWord_37, rX10_isTextWord_40, rX10_isTextWord_41, rX10_isTextWord_42, rX10_isTextWord_45, if10, nI_1]
    have i0 := ih (i + 1) false (by omega)
    have i1 := ih (i + 1) true (by omega)
    simp only [Bool.false_eq_true, if_false, false_and] at i0
    simp only [if_true, true_and] at i1
    rw [hd]
    cases b with
    | false =>
      simp only [Bool.false_eq_true, if_false, false_and, if_true]
      exact i0
    | true =>
      simp only [if_true, true_and]
      by_cases q : isL (T.getD i 0)
      · rw [if_pos q]
        have e : (∀ c ∈ T.getD i 0 :: T.drop (i + 1), isL c) ↔ ∀ c ∈ T.drop (i + 1), isL c := ⟨fun z c hc => z c (List.mem_cons_of_mem _ hc), fun z c hc => by
          rcases List.mem_cons.mp hc with h | h
          · rw [h]; exact q
          · exact z c h⟩
        simp only [e]
        exact i1
      · rw [if_neg q, if_neg (fun z => q (z _ (List.mem_cons_self ..)))]
        exact i0
theorem M_isTW {T : List Int32} (ok : mOK w Q) (hT : T.length ≤ 30) (tx : txIs I T) : WP mX10_isTextWord 0 [.ref 270, .null, .null] [] w (I, Q, J) K ↔ K (some (.int (if wrdI T then 1 else 0))) w (I, Q, J) := by
  have hr : (1 ≤ nI T.length ∧ nI T.length ≤ 5) ↔ (1 ≤ T.length ∧ T.length ≤ 5) := ⟨fun z => ⟨(nI_leI (a := 1) (by decide) (by omega)).mp z.1, (nI_leI (b := 5) (by omega) (by decide)).mp z.2⟩, fun z => ⟨(nI_leI (a := 1) (by decide) (by omega)).mpr z.1, (nI_leI (b := 5) (by omega) (by decide)).mpr z.2⟩⟩
  have := M_isTW_loop (J := J) (K := K) ok hT tx T.length 0 (decide (1 ≤ T.length ∧ T.length ≤ 5)) rfl
  simp only [decide_eq_true_eq, List.drop_zero] at this
  rw [← this]
  simp only [rX10_isTextWord_0, rX10_isTextWord_1, rX10_isTextWord_4, rX10_isTextWord_5, rX10_isTextWord_6, rX10_isTextWord_9, rX10_isTextWord_10, rX10_isTextWord_11, ok.1, true_and, tx.1, M_in, tl_some, hr]
  rfl
theorem M_told_in {T u : List Int32} {x : Nat} {fn : Int32} (ok : mOK w Q) (tx : txIs I T) (hx : x < 4) (ru : wdM (I 271) x u) (hu : u.length = T.length) (hu5 : T.length ≤ 5) : ∀ d j, d + j = T.length → (∀ t, t < j → u.getD t 0 = T.getD t 0) → ∃ v6, ∀ K, (WP mX10_isTold 40 [.ref 270, .int fn, .int (nI x), .int 1, .int (nI j)] [] w (I, Q, J) K ↔ WP mX10_isTold 90 [.ref 270, .int fn, .int (nI x), .int (if T = u then 1 else 0), v6] [] w (I, Q, J) K) := by
  obtain ⟨o, ⟨q0, q1, q3, q4, q7, q8, q9, q10, q11⟩, w1, w2, w3, w4, -⟩ := id ok
  intro d
  induction d with
  | zero =>
    intro j hj hh
    refine ⟨.int (nI j), fun K => ?_⟩
    rw [rX10_isTold_40]
    simp only [rX10_isTold_42, rX10_isTold_43, rX10_isTold_46, o, true_and, tx.1]
    rw [if_pos (nI_le (by omega) (by omega)), if_pos (leq_getD hu.symm (fun t ht => (hh t (by omega)).symm))]
  | succ d ih =>
    intro j hj hh
    have hjn : j < T.length := by omega
    have hd : ∀ {K : Option Value → WS → HS → Prop}, WP mX10_isTold 40 [.ref 270, .int fn, .int (nI x), .int 1, .int (nI j)] [] w (I, Q, J) K ↔ if u.getD j 0 = T.getD j 0 then WP mX10_isTold 40 [.ref 270, .int fn, .int (nI x), .int 1, .int (nI (j + 1))] [] w (I, Q, J) K else WP mX10_isTold 40 [.ref 270, .int fn, .int (nI x), .int 0, .int (nI (j + 1))] [] w (I, Q, J) K := by
      intro K
      rw [rX10_isTold_40]
      simp only [rX10_isTold_42, rX10_isTold_43, rX10_isTold_46, rX10_isTold_49, rX10_isTold_50, rX10_isTold_53, rX10_isTold_54, rX10_isTold_57, rX10_isTold_60, rX10_isTold_61, rX10_isTold_62, rX10_isTold_63, rX10_isTold_64, rX10_isTold_66, rX10_isTold_67, rX10_isTold_68, rX10_isTold_69, rX10_isTold_72, rX10_isTold_74, rX10_isTold_75, rX10_isTold_78, rX10_isTold_79, rX10_isTold_82, rX10_isTold_83, rX10_isTold_84, rX10_isTold_87, o, q0, q4, w1, w4, rf_some, true_and, tx.1, ixW, vin_nI (show 317 + 5 * x + j < 373 by omega) (by decide), nI_clamp (show 317 + 5 * x + j < 2 ^ 31 by omega), vin_nI (show j < 30 by omega) (by decide), nI_clamp (show j < 2 ^ 31 by omega), ru.2 j (by omega), tx.2 j hjn, nI_1]
      rw [if_neg (nI_ge hjn (by omega)), if_neg (by decide)]
      by_cases q : u.getD j 0 = T.getD j 0
      · rw [if_pos q, if_neg (fun z => z q)]
      · rw [if_neg q, if_pos q]
    by_cases q : u.getD j 0 = T.getD j 0
    · obtain ⟨v6, h6⟩ := ih (j + 1) (by omega) (fun t ht => by
        by_cases e : t = j
        · rw [e]; exact q
        · exact hh t (by omega))
      refine ⟨v6, fun K => ?_⟩
      rw [hd, if_pos q, h6]
    · refine ⟨.int (nI (j + 1)), fun K => ?_⟩
      rw [hd, if_neg q, rX10_isTold_40]
      simp only [rX10_isTold_42, rX10_isTold_43, rX10_isTold_46, rX10_isTold_49, rX10_isTold_50, o, true_and, if_true, ite_self]
      rw [if_neg (fun z => q (by rw [z]))]
theorem M_isTold_loop {T : List Int32} {W : List (List Int32)} (ok : mOK w Q) (hT : T.length ≤ 5) (tx : txIs I T) (hW : wdV W) (h1 : I 271 1 = nI W.length) (hwd : ∀ x, x < W.length → wdM (I 271) x (W.getD x [])) : ∀ d x (b : Bool) (v3 v4 : Value), d + x = W.length → (WP mX10_isTold 4 [.ref 270, .int (if b then 1 else 0), .int (nI x), v3, v4] [] w (I, Q, J) K ↔ K (some (.int (if b || hasW W T d x then 1 else 0))) w (I, Q, J)) := by
  obtain ⟨o, ⟨q0, -⟩, w1, -⟩ := id ok
  have h4 := hW.1
  have v1 : vin 1 373 := vin_nI (n := 1) (by decide) (by decide)
  intro d
  induction d with
  | zero =>
    intro x b v3 v4 hx
    rw [rX10_isTold_4]
    simp only [rX10_isTold_5, rX10_isTold_6, rX10_isTold_9, rX10_isTold_10, rX10_isTold_11, rX10_isTold_110, rX10_isTold_111, o, q0, w1, rf_some, true_and, v1, cl1, h1]
    rw [if_pos (nI_le (by omega) (by omega))]
    simp only [hasW, Bool.or_false]
    cases b <;> simp
  | succ d ih =>
    intro x b v3 v4 hx
    have hx4 : x < W.length := by omega
    have ru := hwd x hx4
    have hu := (hW.2 x hx4).2
    have fin : ∀ (y : Bool) (v4 : Value), WP mX10_isTold 90 [.ref 270, .int (if b then 1 else 0), .int (nI x), .int (if y then 1 else 0), v4] [] w (I, Q, J) K ↔ K (some (.int (if (b || y) || hasW W T d (x + 1) then 1 else 0))) w (I, Q, J) := by
      intro y v4
      rw [← ih (x + 1) (b || y) (.int (if y then 1 else 0)) v4 (by omega)]
      cases b <;> cases y <;> simp [rX10_isTold_90, rX10_isTold_91, rX10_isTold_94, rX10_isTold_95, rX10_isTold_98, rX10_isTold_99, rX10_isTold_102, rX10_isTold_103, rX10_isTold_104, rX10_isTold_107, nI_1]
    have hd : ∀ {K : Option Value → WS → HS → Prop}, WP mX10_isTold 4 [.ref 270, .int (if b then 1 else 0), .int (nI x), v3, v4] [] w (I, Q, J) K ↔ if (W.getD x []).length = T.length then WP mX10_isTold 40 [.ref 270, .int (if b then 1 else 0), .int (nI x), .int 1, .int (nI 0)] [] w (I, Q, J) K else WP mX10_isTold 40 [.ref 270, .int (if b then 1 else 0), .int (nI x), .int 0, .int (nI 0)] [] w (I, Q, J) K := by
      intro K
      rw [rX10_isTold_4]
      simp only [rX10_isTold_5, rX10_isTold_6, rX10_isTold_9, rX10_isTold_10, rX10_isTold_11, rX10_isTold_14, rX10_isTold_15, rX10_isTold_18, rX10_isTold_21, rX10_isTold_22, rX10_isTold_23, rX10_isTold_24, rX10_isTold_25, rX10_isTold_28, rX10_isTold_31, rX10_isTold_32, rX10_isTold_35, rX10_isTold_36, rX10_isTold_37, rX10_isTold_38, o, q0, w1, rf_some, true_and, v1, cl1, h1, ixV, vin_nI (show 313 + x < 373 by omega) (by decide), nI_clamp (show 313 + x < 2 ^ 31 by omega), ru.1, tx.1]
      rw [if_neg (nI_ge hx4 (by omega))]
      by_cases q : (W.getD x []).length = T.length
      · rw [if_pos q, if_neg (fun z => z (by rw [q]))]; rfl
      · rw [if_neg q, if_pos (fun z => q (nI_inj (by omega) (by omega) z))]; rfl
    rw [hd]
    have hs1 : T = W.getD x [] → hasW W T (d + 1) x = true := fun e => if_pos e
    have hs2 : ¬ T = W.getD x [] → hasW W T (d + 1) x = hasW W T d (x + 1) := fun e => if_neg e
    by_cases q : (W.getD x []).length = T.length
    · rw [if_pos q]
      obtain ⟨v', hv'⟩ := M_told_in (J := J) (fn := if b then 1 else 0) ok tx (show x < 4 by omega) ru q hT T.length 0 (by omega) (fun t ht => by omega)
      rw [hv']
      have := fin (decide (T = W.getD x [])) v'
      simp only [decide_eq_true_eq] at this
      rw [this]
      by_cases e : T = W.getD x []
      · rw [hs1 e, decide_eq_true e]; simp
      · rw [hs2 e, decide_eq_false e, Bool.or_false]
    · rw [if_neg q, rX10_isTold_40]
      simp only [rX10_isTold_42, rX10_isTold_43, rX10_isTold_46, rX10_isTold_49, rX10_isTold_50, o, true_and, if_true, ite_self]
      have := fin false (.int (nI 0))
      simp only [Bool.false_eq_true, if_false, Bool.or_false] at this
      rw [this, hs2 (fun z => q (by rw [← z]))]
theorem M_word_loop {T : List Int32} {x : Nat} (ok : mOK w Q) (hx : x < 4) (hT : T.length ≤ 5) : ∀ n i (I : Nat → Nat → Int32), n + i = T.length → txIs I T → ∃ I', (∀ j, i ≤ j → j < T.length → I' 271 (317 + 5 * x + j) = T.getD j 0) ∧ (∀ z, z < 317 + 5 * x + i ∨ 317 + 5 * x + 5 ≤ z → I' 271 z = I 271 z) ∧ (∀ c, c ≠ 271 → I' c = I c) ∧ ∀ K, (WP mX10_word 65 [.ref 270, .int (nI x), .int (nI i)] [] w (I, Q, J) K ↔ WP mX10_word 99 [.ref 270, .int (nI x), .int (nI T.length)] [] w (I', Q, J) K) := by
  obtain ⟨o, ⟨q0, q1, q3, q4, q7, q8, q9, q10, q11⟩, w1, w2, w3, w4, -⟩ := id ok
  intro n
  induction n with
  | zero =>
    intro i I hi tx
    refine ⟨I, fun j h1 h2 => by omega, fun _ _ => rfl, fun _ _ => rfl, fun K => ?_⟩
    rw [rX10_word_65]
    simp only [rX10_word_66, rX10_word_67, rX10_word_70, o, true_and, tx.1]
    rw [if_pos (nI_le (by omega) (by omega)), show i = T.length by omega]
  | succ n ih =>
    intro i I hi tx
    have hil : i < T.length := by omega
    obtain ⟨I', f1, f2, f3, f4⟩ := ih (i + 1) (u2 I 271 (317 + 5 * x + i) (T.getD i 0)) (by omega) ⟨by rw [Fr_u2 270 (by decide)]; exact tx.1, by rw [Fr_u2 274 (by decide)]; exact tx.2⟩
    refine ⟨I', fun j h1 h2 => ?_, fun z hz => ?_, fun c hc => (f3 c hc).trans (Fr_u2 c hc), fun K => ?_⟩
    · by_cases e : j = i
      · subst e; rw [f2 _ (Or.inl (by omega)), u2_same]
      · exact f1 j (by omega) h2
    · rw [f2 z (by omega), u2_ne (Or.inr (by omega))]
    · rw [← f4 K, rX10_word_65]
      simp only [rX10_word_66, rX10_word_67, rX10_word_70, rX10_word_73, rX10_word_74, rX10_word_77, rX10_word_80, rX10_word_81, rX10_word_82, rX10_word_83, rX10_word_84, rX10_word_85, rX10_word_86, rX10_word_87, rX10_word_90, rX10_word_91, rX10_word_92, rX10_word_93, rX10_word_96, o, q0, q4, w1, w4, rf_some, true_and, tx.1, ixW, vin_nI (show i < 30 by omega) (by decide), nI_clamp (show i < 2 ^ 31 by omega), vin_nI (show 317 + 5 * x + i < 373 by omega) (by decide), nI_clamp (show 317 + 5 * x + i < 2 ^ 31 by omega), ne_eq, show ¬ (271 : Nat) = 0 by decide, not_false_eq_true, tx.2 i hil, nI_1]
      rw [if_neg (nI_ge hil (by omega))]
theorem N_word (ms : MS w I Q S) (hv : SV S) : MA w I Q J mX10_word [.ref 270, .null, .null] (.int (sp_word S).1) (sp_word S).2 := by
  obtain ⟨ok, c2, c3, c4, c5, c6, c7⟩ := id ms
  obtain ⟨o, ⟨q0, q1, q3, q4, q7, q8, q9, q10, q11⟩, w1, -⟩ := id ok
  have h10 := hv.2.1.1.1
  have hT := hv.1
  have hW4 := hv.2.1.2.1.1
  have v0 : vin 0 373 := vin_nI (n := 0) (by decide) (by decide)
  have v1 : vin 1 373 := vin_nI (n := 1) (by decide) (by decide)
  unfold sp_word
  by_cases hw : wrdI S.1
  · have hh : ∀ {K : Option Value → WS → HS → Prop}, WP mX10_word 0 [.ref 270, .null, .null] [] w (I, Q, J) K ↔ if hasW S.2.1.2.1 S.1 S.2.1.2.1.length 0 = true then WP mX10_word 14 [.ref 270, .null, .null] [] w (I, Q, J) K else WP mX10_word 21 [.ref 270, .null, .null] [] w (I, Q, J) K := by
      intro K
      simp only [rX10_word_0, rX10_word_1, o, true_and, M_isTW ok hT c5, tl_some]
      simp only [rX10_word_4, rX10_word_7, rX10_word_8, if10, o, true_and]
      rw [if_pos hw]
      have := M_isTold_loop (J := J) (K := fun r w h => WP mX10_word 11 [.ref 270, .null, .null] (r.toList ++ []) w h K) ok hw.1.2 c5 hv.2.1.2.1 c2.1.2.1 c2.2.2.1 S.2.1.2.1.length 0 false .null .null rfl
      simp only [Bool.false_eq_true, if_false, Bool.false_or] at this
      simp only [rX10_isTold_0, rX10_isTold_1, rX10_isTold_2, rX10_isTold_3]
      rw [show (WP mX10_isTold 4 [.ref 270, .int 0, .int 0, .null, .null] [] w (I, Q, J) fun r w h => WP mX10_word 11 [.ref 270, .null, .null] (r.toList ++ []) w h K) ↔ _ from this]
      simp only [tl_some, rX10_word_11, if10]
    by_cases hq : hasW S.2.1.2.1 S.1 S.2.1.2.1.length 0 = true
    · rw [if_pos (Or.inr hq)]
      refine MA.no ms (fun K => ?_)
      rw [hh, if_pos hq]
      simp only [rX10_word_14, rX10_word_15, rX10_word_17, rX10_word_20, o, true_and, mrN ok, tl_some]
    · rw [if_neg (fun z => z.elim (fun z => z hw) hq)]
      by_cases h4' : S.2.1.2.1.length = 4
      · rw [if_pos h4']
        refine MA.full ms (fun K => ?_)
        rw [hh, if_neg hq]
        simp only [rX10_word_21, rX10_word_22, rX10_word_25, rX10_word_26, rX10_word_27, rX10_word_28, rX10_word_31, rX10_word_32, rX10_word_34, rX10_word_37, o, q0, w1, rf_some, true_and, v1, cl1, c2.1.2.1, mrF ok, tl_some]
        rw [if_neg (show ¬ ¬ nI S.2.1.2.1.length = 4 from fun z => z (by rw [h4']; rfl))]
      · rw [if_neg h4']
        obtain ⟨I1, a1, a2, a3, a4, a5⟩ := M_remembers (J := J) ms hv
        have e271 : I1 271 = I 271 := a2 271 (by decide) (by decide) (by decide) (by decide)
        have tx1 : txIs (u2 I1 271 (313 + S.2.1.2.1.length) (nI S.1.length)) S.1 := ⟨by rw [Fr_u2 270 (by decide), a3 5 (by decide)]; exact c5.1, by rw [Fr_u2 274 (by decide), a2 274 (by decide) (by decide) (by decide) (by decide)]; exact c5.2⟩
        obtain ⟨I2, b1, b2, b3, b4⟩ := M_word_loop (J := J) (x := S.2.1.2.1.length) ok (by omega) hw.1.2 S.1.length 0 _ rfl tx1
        have ez : ∀ z, z ≠ 313 + S.2.1.2.1.length → z < 317 + 5 * S.2.1.2.1.length ∨ 317 + 5 * S.2.1.2.1.length + 5 ≤ z → I2 271 z = I1 271 z := fun z z1 z2 => by rw [b2 z (by omega), u2_ne (Or.inr z1)]
        have h12 : I2 271 1 = nI S.2.1.2.1.length := by rw [ez 1 (by omega) (by omega), e271]; exact c2.1.2.1
        have h02 : ∀ y, u2 I2 271 1 y 271 0 = nI S.2.1.1.length := fun y => by rw [u2_ne (Or.inr (by decide)), ez 0 (by omega) (by omega), e271]; exact c2.1.1
        have hlen : (S.2.1.2.1 ++ [S.1]).length = S.2.1.2.1.length + 1 := by simp
        have hW' : wdV (S.2.1.2.1 ++ [S.1]) := by
          refine ⟨by omega, fun k hk => ?_⟩
          by_cases q : k < S.2.1.2.1.length
          · rw [show (S.2.1.2.1 ++ [S.1]).getD k [] = S.2.1.2.1.getD k [] by simp only [List.getD_eq_getElem?_getD, List.getElem?_append_left q]]
            exact hv.2.1.2.1.2 k q
          · have hke : k = S.2.1.2.1.length := by omega
            subst hke
            rw [show (S.2.1.2.1 ++ [S.1]).getD S.2.1.2.1.length [] = S.1 by simp [List.getD_eq_getElem?_getD]]
            exact hw.1
        obtain ⟨I3, g1, g2, g3, g4⟩ := N_rewords (J := J) (W' := S.2.1.2.1 ++ [S.1]) (I2 := u2 I2 271 1 (nI (S.2.1.2.1.length + 1))) ms hv a1 a2 a3 a4 hW' (fun z z1 z2 => by rw [u2_ne (Or.inr z1), ez z (by omega) (by omega)]) (by rw [u2_same, hlen]) (fun k hk => by
          by_cases q : k < S.2.1.2.1.length
          · rw [show (S.2.1.2.1 ++ [S.1]).getD k [] = S.2.1.2.1.getD k [] by simp only [List.getD_eq_getElem?_getD, List.getElem?_append_left q]]
            have hwk := c2.2.2.1 k q
            have h5 := (hv.2.1.2.1.2 k q).2
            exact ⟨by rw [u2_ne (Or.inr (by omega)), ez _ (by omega) (by omega), e271]; exact hwk.1, fun i hi => by rw [u2_ne (Or.inr (by omega)), ez _ (by omega) (by omega), e271]; exact hwk.2 i hi⟩
          · have hke : k = S.2.1.2.1.length := by omega
            subst hke
            rw [show (S.2.1.2.1 ++ [S.1]).getD S.2.1.2.1.length [] = S.1 by simp [List.getD_eq_getElem?_getD]]
            exact ⟨by rw [u2_ne (Or.inr (by omega)), b2 _ (by omega), u2_same], fun i hi => by rw [u2_ne (Or.inr (by omega)), b1 i (Nat.zero_le _) hi]⟩) (fun c hc => by rw [Fr_u2 c hc, b3 c hc, Fr_u2 c hc])
        refine ⟨I3, g1, g2, fun K => ?_⟩
        rw [hh, if_neg hq]
        have h11 : I1 271 1 = nI S.2.1.2.1.length := by rw [e271]; exact c2.1.2.1
        have h5 : I1 270 5 = nI S.1.length := by rw [a3 5 (by decide)]; exact c5.1
        simp only [rX10_word_21, rX10_word_22, rX10_word_25, rX10_word_26, rX10_word_27, rX10_word_28, rX10_word_31, rX10_word_32, rX10_word_34, rX10_word_37, rX10_word_38, rX10_word_39, o, q0, w1, rf_some, true_and, v1, cl1, c2.1.2.1]
        rw [if_pos (show ¬ nI S.2.1.2.1.length = 4 from fun z => h4' (nI_inj (b := 4) (by omega) (by decide) z)), a5]
        simp only [tl_none, rX10_word_42, rX10_word_43, rX10_word_46, rX10_word_47, rX10_word_48, rX10_word_49, rX10_word_50, rX10_word_53, rX10_word_56, rX10_word_57, rX10_word_58, rX10_word_59, rX10_word_62, rX10_word_63, rX10_word_64, o, q0, w1, rf_some, true_and, v1, cl1, h11, h5, ixV, vin_nI (show 313 + S.2.1.2.1.length < 373 by omega) (by decide), nI_clamp (show 313 + S.2.1.2.1.length < 2 ^ 31 by omega), ne_eq, show ¬ (271 : Nat) = 0 by decide, not_false_eq_true]
        rw [show (0 : Int32) = nI 0 from rfl, b4]
        simp only [rX10_word_99, rX10_word_100, rX10_word_103, rX10_word_104, rX10_word_105, rX10_word_106, rX10_word_107, rX10_word_108, rX10_word_109, rX10_word_110, rX10_word_111, rX10_word_112, rX10_word_115, rX10_word_116, rX10_word_117, o, q0, w1, rf_some, true_and, v0, v1, cl0, cl1, h12, h02, nI_1, ne_eq, show ¬ (271 : Nat) = 0 by decide, not_false_eq_true]
        rw [show (0 : Int32) = nI 0 from rfl, g4]
        simp only [tl_none, rX10_word_120, rX10_word_121]
  · rw [if_pos (Or.inl hw)]
    refine MA.no ms (fun K => ?_)
    simp only [rX10_word_0, rX10_word_1, o, true_and, M_isTW ok hT c5, tl_some]
    simp only [rX10_word_4, rX10_word_14, rX10_word_15, rX10_word_17, rX10_word_20, if10, o, true_and, mrN ok, tl_some]
    rw [if_neg hw]
end MF
