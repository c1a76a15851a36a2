/-! ===== the reference holds a state; its calls ===== -/
def pastIs (I : Nat → Nat → Int32) (H : List ZS) : Prop := I 270 2 = nI H.length ∧ ∀ d, d < H.length → nowIs (fun i => I 272 (373 * (H.length - 1 - d) + i)) (H.getD d ([], [], []))
def txIs (I : Nat → Nat → Int32) (T : List Int32) : Prop := I 270 5 = nI T.length ∧ ∀ i, i < T.length → I 274 i = T.getD i 0
def MS (w : WS) (I : Nat → Nat → Int32) (Q : Nat → Nat → Option Nat) (S : SP) : Prop := mOK w Q ∧ nowIs (I 271) S.2.1 ∧ pastIs I S.2.2.1 ∧ (I 273 0 = S.2.2.2.2.1 ∧ I 273 1 = S.2.2.2.2.2.1 ∧ I 273 2 = S.2.2.2.2.2.2) ∧ txIs I S.1 ∧ I 270 6 = nI S.2.2.2.1 ∧ ∀ k, k < S.2.1.1.length → ptM I S.2.1.2.1 S.2.1.1 k
def MA (w : WS) (I : Nat → Nat → Int32) (Q : Nat → Nat → Option Nat) (J : Nat → Nat → Int64) (m : ME) (as : List Value) (r : Value) (S' : SP) : Prop := ∃ (I' : Nat → Nat → Int32), MS w I' Q S' ∧ Fr (fun c => 270 ≤ c ∧ c < 280) I I' ∧ ∀ K, (WP m 0 as [] w (I, Q, J) K ↔ K (some r) w (I', Q, J))
theorem MA.same {w : WS} {I : Nat → Nat → Int32} {Q : Nat → Nat → Option Nat} {J : Nat → Nat → Int64} {m : ME} {as : List Value} {r : Value} {S : SP} (c : MS w I Q S) (h : ∀ K, (WP m 0 as [] w (I, Q, J) K ↔ K (some r) w (I, Q, J))) : MA w I Q J m as r S := ⟨I, c, Fr.rf, h⟩
section M7
variable {w : WS} {I : Nat → Nat → Int32} {Q : Nat → Nat → Option Nat} {J : Nat → Nat → Int64} {K : Option Value → WS → HS → Prop} {S : SP}
theorem M_refuse {j : Nat} (hj : j < 3) (ok : mOK w Q) : WP mX10_refuses 0 [.ref 270, .int (-2 - nI j)] [] w (I, Q, J) K ↔ K (some (.int (-2 - nI j))) w (u2 I 273 j (I 273 j + 1), Q, J) := by
  obtain ⟨o, ⟨q0, q1, q3, q4, q7, q8, q9, q10, q11⟩, w1, w2, w3, -⟩ := id ok
  have e : -2 - (-2 - nI j) = nI j := by rcases (show j = 0 ∨ j = 1 ∨ j = 2 by omega) with rfl | rfl | rfl <;> decide
  simp only [rX10_refuses_0, rX10_refuses_1, rX10_refuses_4, rX10_refuses_6, rX10_refuses_7, rX10_refuses_8, rX10_refuses_9, rX10_refuses_10, rX10_refuses_11, rX10_refuses_12, rX10_refuses_13, rX10_refuses_14, o, q3, w3, rf_some, true_and, e, vin_nI hj (by decide), nI_clamp (show j < 2 ^ 31 by omega), ne_eq, show ¬ (273 : Nat) = 0 by decide, not_false_eq_true]
theorem MS.ref {j : Nat} {S' : SP} (c : MS w I Q S) (hS : S' = (S.1, S.2.1, S.2.2.1, S.2.2.2.1, S'.2.2.2.2)) (h0 : u2 I 273 j (I 273 j + 1) 273 0 = S'.2.2.2.2.1) (h1 : u2 I 273 j (I 273 j + 1) 273 1 = S'.2.2.2.2.2.1) (h2 : u2 I 273 j (I 273 j + 1) 273 2 = S'.2.2.2.2.2.2) : MS w (u2 I 273 j (I 273 j + 1)) Q S' := by
  obtain ⟨c1, c2, c3, c4, c5, c6, c7⟩ := c
  have e : ∀ z, z ≠ 273 → u2 I 273 j (I 273 j + 1) z = I z := fun z q => Fr_u2 z q
  rw [hS]
  exact ⟨c1, by rw [e 271 (by decide)]; exact c2, ⟨by rw [e 270 (by decide)]; exact c3.1, by rw [e 272 (by decide)]; exact c3.2⟩, ⟨h0, h1, h2⟩, ⟨by rw [e 270 (by decide)]; exact c5.1, by rw [e 274 (by decide)]; exact c5.2⟩, by rw [e 270 (by decide)]; exact c6, fun k hk => (c7 k hk).fr (e 275 (by decide)) (e 276 (by decide)) (e 277 (by decide))⟩
theorem MA.bad {m : ME} {as : List Value} (c : MS w I Q S) (h : ∀ K, (WP m 0 as [] w (I, Q, J) K ↔ K (some (.int (-2))) w (u2 I 273 0 (I 273 0 + 1), Q, J))) : MA w I Q J m as (.int (-2)) (badS S) :=
  ⟨_, c.ref rfl (by rw [u2_same, c.2.2.2.1.1]; rfl) (by rw [u2_ne (Or.inr (by decide))]; exact c.2.2.2.1.2.1) (by rw [u2_ne (Or.inr (by decide))]; exact c.2.2.2.1.2.2), Fr_u2.wk (fun c z => by omega), h⟩
theorem MA.no {m : ME} {as : List Value} (c : MS w I Q S) (h : ∀ K, (WP m 0 as [] w (I, Q, J) K ↔ K (some (.int (-3))) w (u2 I 273 1 (I 273 1 + 1), Q, J))) : MA w I Q J m as (.int (-3)) (noS S) :=
  ⟨_, c.ref rfl (by rw [u2_ne (Or.inr (by decide))]; exact c.2.2.2.1.1) (by rw [u2_same, c.2.2.2.1.2.1]; rfl) (by rw [u2_ne (Or.inr (by decide))]; exact c.2.2.2.1.2.2), Fr_u2.wk (fun c z => by omega), h⟩
theorem MA.full {m : ME} {as : List Value} (c : MS w I Q S) (h : ∀ K, (WP m 0 as [] w (I, Q, J) K ↔ K (some (.int (-4))) w (u2 I 273 2 (I 273 2 + 1), Q, J))) : MA w I Q J m as (.int (-4)) (fullS S) :=
  ⟨_, c.ref rfl (by rw [u2_ne (Or.inr (by decide))]; exact c.2.2.2.1.1) (by rw [u2_ne (Or.inr (by decide))]; exact c.2.2.2.1.2.1) (by rw [u2_same, c.2.2.2.1.2.2]; rfl), Fr_u2.wk (fun c z => by omega), h⟩
theorem mrB (ok : mOK w Q) : WP mX10_refuses 0 [.ref 270, .int (-2)] [] w (I, Q, J) K ↔ K (some (.int (-2))) w (u2 I 273 0 (I 273 0 + 1), Q, J) := M_refuse (j := 0) (by decide) ok
theorem mrN (ok : mOK w Q) : WP mX10_refuses 0 [.ref 270, .int (-3)] [] w (I, Q, J) K ↔ K (some (.int (-3))) w (u2 I 273 1 (I 273 1 + 1), Q, J) := M_refuse (j := 1) (by decide) ok
theorem mrF (ok : mOK w Q) : WP mX10_refuses 0 [.ref 270, .int (-4)] [] w (I, Q, J) K ↔ K (some (.int (-4))) w (u2 I 273 2 (I 273 2 + 1), Q, J) := M_refuse (j := 2) (by decide) ok
/-- a range from nothing on -/
theorem rgN {x : Int32} {n : Nat} (hn : n < 1000) : (0 ≤ x ∧ x ≤ nI n) ↔ inR x (n + 1) := by
  rw [leN hn]
  exact ⟨fun z => ⟨Int32.not_lt.mpr z.1, Int32.not_lt.mpr z.2⟩, fun z => ⟨Int32.not_lt.mp z.1, Int32.not_lt.mp z.2⟩⟩
theorem rgP {x : Int32} {n : Nat} (hn : n < 1000) : (0 ≤ x ∧ x ≤ nI n - 1) ↔ inR x n := by
  by_cases h : n = 0
  · subst h
    constructor
    · intro z
      have h1 := Int32.le_iff_toInt_le.mp z.1
      have h2 := Int32.le_iff_toInt_le.mp z.2
      have e : (nI 0 - 1).toInt = -1 := by decide
      have e0 : (0 : Int32).toInt = 0 := by decide
      omega
    · intro z
      exact absurd (Int32.not_lt.mp z.1) z.2
  · rw [show nI n - 1 = nI (n - 1) from pk_sub (show 1 ≤ n by omega), rgN (by omega), show n - 1 + 1 = n by omega]
theorem rg7 {x : Int32} : (0 ≤ x ∧ x ≤ 7) ↔ inR x 8 := rgN (n := 7) (by decide)
theorem rg5 {x : Int32} : (0 ≤ x ∧ x ≤ 5) ↔ inR x 6 := rgN (n := 5) (by decide)
theorem rg2 {x : Int32} : (0 ≤ x ∧ x ≤ 2) ↔ inR x 3 := rgN (n := 2) (by decide)
theorem rg25 {x : Int32} : (0 ≤ x ∧ x ≤ 25) ↔ inR x 26 := rgN (n := 25) (by decide)
theorem N_type {c : Int32} (ms : MS w I Q S) (hv : SV S) : MA w I Q J mX10_type [.ref 270, .int c] (.int (sp_type c S).1) (sp_type c S).2 := by
  obtain ⟨ok, c2, c3, c4, c5, c6, c7⟩ := id ms
  obtain ⟨o, ⟨q0, q1, q3, q4, q7, q8, q9, q10, q11⟩, w1, w2, w3, w4, -⟩ := id ok
  have h30 := hv.1
  unfold sp_type
  by_cases hb : byI c
  · rw [if_neg (fun z => z hb)]
    by_cases hf : 30 ≤ S.1.length
    · rw [if_pos hf]
      refine MA.full ms (fun K => ?_)
      have h30' : S.1.length = 30 := by omega
      simp only [rX10_type_0, rX10_type_1, rX10_type_3, rX10_type_5, rX10_type_8, rX10_type_11, rX10_type_12, rX10_type_14, rX10_type_17, rX10_type_18, rX10_type_19, rX10_type_22, rX10_type_24, rX10_type_27, rX10_type_28, rX10_type_30, rX10_type_33, rX10_type_34, rX10_type_35, rX10_type_38, rX10_type_39, rX10_type_42, rX10_type_43, rX10_type_44, rX10_type_45, rX10_type_46, rX10_type_49, rX10_type_50, rX10_type_51, rX10_type_54, rX10_type_55, rX10_type_58, M_in, tl_some, ifn10, o, c5.1, h30', true_and, mrF ok]
      rw [if_pos hb, if_neg (show ¬ ¬ nI 30 = 30 from fun z => z rfl)]
    · rw [if_neg hf]
      have e1 : ∀ z, z ≠ 270 → z ≠ 274 → u2 (u2 I 274 S.1.length c) 270 5 (nI (S.1.length + 1)) z = I z := fun z z1 z2 => by rw [Fr_u2 z z1, Fr_u2 z z2]
      have e2 : ∀ f, f ≠ 5 → u2 (u2 I 274 S.1.length c) 270 5 (nI (S.1.length + 1)) 270 f = I 270 f := fun f hf => by rw [u2_ne (Or.inr hf), u2_ne (Or.inl (by decide))]
      refine ⟨u2 (u2 I 274 S.1.length c) 270 5 (nI (S.1.length + 1)), ⟨ok, by rw [e1 271 (by decide) (by decide)]; exact c2, ⟨by rw [e2 2 (by decide)]; exact c3.1, by rw [e1 272 (by decide) (by decide)]; exact c3.2⟩, by rw [e1 273 (by decide) (by decide)]; exact c4, ⟨by rw [u2_same]; simp, fun i hi => ?_⟩, by rw [e2 6 (by decide)]; exact c6, fun k hk => (c7 k hk).fr (e1 275 (by decide) (by decide)) (e1 276 (by decide) (by decide)) (e1 277 (by decide) (by decide))⟩, fun z hz => e1 z (by omega) (by omega), fun K => ?_⟩
      · rw [u2_ne (Or.inl (by decide))]
        by_cases e : i < S.1.length
        · rw [u2_ne (Or.inr (by omega)), c5.2 i e]
          simp only [List.getD_eq_getElem?_getD, List.getElem?_append_left e]
        · have : i = S.1.length := by simp at hi; omega
          subst this
          rw [u2_same]; simp [List.getD_eq_getElem?_getD]
      · have h5 : ∀ y, u2 I 274 S.1.length y 270 5 = nI S.1.length := fun y => by rw [u2_ne (Or.inl (by decide))]; exact c5.1
        simp only [rX10_type_0, rX10_type_1, rX10_type_3, rX10_type_5, rX10_type_8, rX10_type_11, rX10_type_12, rX10_type_14, rX10_type_17, rX10_type_18, rX10_type_19, rX10_type_22, rX10_type_24, rX10_type_27, rX10_type_28, rX10_type_30, rX10_type_33, rX10_type_34, rX10_type_35, rX10_type_38, rX10_type_39, rX10_type_42, rX10_type_43, rX10_type_44, rX10_type_45, rX10_type_46, rX10_type_49, rX10_type_50, rX10_type_51, rX10_type_54, rX10_type_55, rX10_type_58, M_in, tl_some, ifn10, o, q4, w4, rf_some, c5.1, true_and, vin_nI (show S.1.length < 30 by omega) (by decide), nI_clamp (show S.1.length < 2 ^ 31 by omega), ne_eq, show ¬ (274 : Nat) = 0 by decide, not_false_eq_true, h5, nI_1, u2_same]
        rw [if_pos hb, if_pos (show ¬ nI S.1.length = 30 from fun z => by have := nI_inj (b := 30) (by omega) (by decide) z; omega)]
  · rw [if_pos hb]
    refine MA.bad ms (fun K => ?_)
    simp only [rX10_type_0, rX10_type_1, rX10_type_3, rX10_type_5, rX10_type_8, rX10_type_11, rX10_type_12, rX10_type_14, rX10_type_17, rX10_type_18, rX10_type_19, rX10_type_22, rX10_type_24, rX10_type_27, rX10_type_28, rX10_type_30, rX10_type_33, rX10_type_34, rX10_type_35, rX10_type_38, rX10_type_39, rX10_type_42, rX10_type_43, rX10_type_44, rX10_type_45, rX10_type_46, rX10_type_49, rX10_type_50, rX10_type_51, rX10_type_54, rX10_type_55, rX10_type_58, M_in, tl_some, ifn10, o, true_and, mrB ok]
    rw [if_neg hb]
theorem N_clear (ms : MS w I Q S) : MA w I Q J mX10_clear [.ref 270, .null] (.int (sp_clear S).1) (sp_clear S).2 := by
  obtain ⟨ok, c2, c3, c4, c5, c6, c7⟩ := id ms
  have e1 : ∀ z, z ≠ 270 → u2 I 270 5 0 z = I z := fun z z1 => Fr_u2 z z1
  have e2 : ∀ f, f ≠ 5 → u2 I 270 5 0 270 f = I 270 f := fun f hf => u2_ne (Or.inr hf)
  refine ⟨u2 I 270 5 0, ⟨ok, by rw [e1 271 (by decide)]; exact c2, ⟨by rw [e2 2 (by decide)]; exact c3.1, by rw [e1 272 (by decide)]; exact c3.2⟩, by rw [e1 273 (by decide)]; exact c4, ⟨u2_same, fun i hi => by simp [sp_clear] at hi⟩, by rw [e2 6 (by decide)]; exact c6, fun k hk => (c7 k hk).fr (e1 275 (by decide)) (e1 276 (by decide)) (e1 277 (by decide))⟩, fun z hz => e1 z (by omega), fun K => ?_⟩
  simp only [rX10_clear_0, rX10_clear_1, rX10_clear_4, rX10_clear_5, rX10_clear_6, rX10_clear_7, rX10_clear_10, rX10_clear_11, ok.1, c5.1, true_and]
  rfl
theorem N_anew (ms : MS w I Q S) : MA w I Q J mX10_anew [.ref 270] (.int (sp_anew S).1) (sp_anew S).2 := by
  refine MA.same ms (fun K => ?_)
  simp only [rX10_anew_0, rX10_anew_1, rX10_anew_4, ms.1.1, true_and, ms.2.2.2.2.2.1]
  rfl
theorem M_toldOf {x : Nat} (ms : MS w I Q S) (hx : x < 8) : WP mX10_toldOf 0 [.ref 270, .int (nI x)] [] w (I, Q, J) K ↔ K (some (.int (toldV S x))) w (I, Q, J) := by
  obtain ⟨ok, c2, c3, c4, c5, c6, c7⟩ := id ms
  obtain ⟨o, ⟨q0, q1, q3, q4, q7, q8, q9, q10, q11⟩, w1, w2, w3, w4, -⟩ := id ok
  have v373 : ∀ i, i < 3 → vin (nI i) 373 := fun i hi => vin_nI (by omega) (by decide)
  rcases (show x < 3 ∨ x = 3 ∨ x = 4 ∨ x = 5 ∨ x = 6 ∨ x = 7 by omega) with hx3 | rfl | rfl | rfl | rfl | rfl
  · rw [rX10_toldOf_0, rX10_toldOf_1_d (Or.inl (by rw [nI_toInt (by omega)]; omega))]
    simp only [rX10_toldOf_55, rX10_toldOf_56, rX10_toldOf_59, rX10_toldOf_60, rX10_toldOf_61, o, q3, w3, rf_some, true_and, vin_nI hx3 (by decide), nI_clamp (show x < 2 ^ 31 by omega)]
    rcases (show x = 0 ∨ x = 1 ∨ x = 2 by omega) with rfl | rfl | rfl
    · rw [c4.1]; rfl
    · rw [c4.2.1]; rfl
    · rw [c4.2.2]; rfl
  · rw [rX10_toldOf_0, show nI 3 = 3 from rfl, rX10_toldOf_1_3]
    simp only [rX10_toldOf_36, rX10_toldOf_37, rX10_toldOf_40, o, c5.1, true_and]; rfl
  · rw [rX10_toldOf_0, show nI 4 = 4 from rfl, rX10_toldOf_1_4]
    have v := v373 0 (by decide)
    simp only [rX10_toldOf_41, rX10_toldOf_42, rX10_toldOf_45, rX10_toldOf_46, rX10_toldOf_47, rX10_toldOf_48, rX10_toldOf_49, o, q0, w1, rf_some, true_and, show (4 : Int32) - 4 = nI 0 by decide, v, nI_clamp (show 0 < 2 ^ 31 by decide), c2.1.1]; rfl
  · rw [rX10_toldOf_0, show nI 5 = 5 from rfl, rX10_toldOf_1_5]
    have v := v373 1 (by decide)
    simp only [rX10_toldOf_41, rX10_toldOf_42, rX10_toldOf_45, rX10_toldOf_46, rX10_toldOf_47, rX10_toldOf_48, rX10_toldOf_49, o, q0, w1, rf_some, true_and, show (5 : Int32) - 4 = nI 1 by decide, v, nI_clamp (show 1 < 2 ^ 31 by decide), c2.1.2.1]; rfl
  · rw [rX10_toldOf_0, show nI 6 = 6 from rfl, rX10_toldOf_1_6]
    have v := v373 2 (by decide)
    simp only [rX10_toldOf_41, rX10_toldOf_42, rX10_toldOf_45, rX10_toldOf_46, rX10_toldOf_47, rX10_toldOf_48, rX10_toldOf_49, o, q0, w1, rf_some, true_and, show (6 : Int32) - 4 = nI 2 by decide, v, nI_clamp (show 2 < 2 ^ 31 by decide), c2.1.2.2]; rfl
  · rw [rX10_toldOf_0, show nI 7 = 7 from rfl, rX10_toldOf_1_7]
    simp only [rX10_toldOf_50, rX10_toldOf_51, rX10_toldOf_54, o, c3.1, true_and]; rfl
theorem N_told {x : Int32} (ms : MS w I Q S) : MA w I Q J mX10_told [.ref 270, .int x] (.int (sp_told x S).1) (sp_told x S).2 := by
  obtain ⟨o, -⟩ := id ms.1
  unfold sp_told
  by_cases hx : inR x 8
  · rw [if_neg (fun z => z hx)]
    obtain ⟨j, hj, rfl⟩ := inR_of (by decide) hx
    refine MA.same ms (fun K => ?_)
    rw [nI_clamp (show j < 2 ^ 31 by omega)]
    simp only [rX10_told_0, rX10_told_1, rX10_told_2, rX10_told_4, rX10_told_7, rX10_told_10, rX10_told_11, rX10_told_12, rX10_told_15, rX10_told_18, rX10_told_19, rX10_told_21, rX10_told_24, M_in, tl_some, if10, o, true_and, M_toldOf ms hj]
    rw [if_pos (rg7.mpr hx)]
  · rw [if_pos hx]
    refine MA.bad ms (fun K => ?_)
    simp only [rX10_told_0, rX10_told_1, rX10_told_2, rX10_told_4, rX10_told_7, rX10_told_10, rX10_told_11, rX10_told_12, rX10_told_15, rX10_told_18, rX10_told_19, rX10_told_21, rX10_told_24, M_in, tl_some, if10, o, true_and, mrB ms.1]
    rw [if_neg (fun z => hx (rg7.mp z))]
theorem ixR (k : Nat) : (337 : Int32) + 3 * nI k = nI (337 + 3 * k) := by rw [show (337 : Int32) = nI 337 from rfl, show (3 : Int32) = nI 3 from rfl, nI_mul, nI_add]
theorem shF_take {R : List RU} {k c m : Nat} (hk : k < R.length) : shF (R.take (k + 1)) c m = stpR (R.getD k (0, 0, 0)) (shF (R.take k) c m) c m := by
  rw [List.take_succ_eq_append_getElem hk, shF_app, List.getD_eq_getElem?_getD, List.getElem?_eq_getElem hk]; rfl
theorem M_shade_loop {R : List RU} {c m : Nat} (ok : mOK w Q) (hR : R.length ≤ 12) (h2 : I 271 2 = nI R.length) (hr : ∀ k, k < R.length → ruM (I 271) k (R.getD k (0, 0, 0))) : ∀ n k (v6 v7 v8 : Value), n + k = R.length → (WP mX10_shadeOf 8 [.ref 270, .int (nI c), .int (nI m), .int (nI (shF (R.take k) c m).1), .int (shF (R.take k) c m).2, .int (nI k), v6, v7, v8] [] w (I, Q, J) K ↔ K (some (.int (shF R c m).2)) w (I, Q, J)) := by
  obtain ⟨o, ⟨q0, -⟩, w1, -⟩ := id ok
  have v2 : vin 2 373 := vin_nI (n := 2) (by decide) (by decide)
  intro n
  induction n with
  | zero =>
    intro k v6 v7 v8 hk
    rw [rX10_shadeOf_8]
    simp only [rX10_shadeOf_10, rX10_shadeOf_11, rX10_shadeOf_14, rX10_shadeOf_15, rX10_shadeOf_16, rX10_shadeOf_134, rX10_shadeOf_136, o, q0, w1, rf_some, true_and, v2, show (2 : Int32).toNatClampNeg = 2 by decide, h2]
    rw [if_pos (nI_le (by omega) (by omega)), List.take_of_length_le (by omega)]
  | succ n ih =>
    intro k v6 v7 v8 hk
    have hkl : k < R.length := by omega
    have rk := hr k hkl
    have hs := shF_take (c := c) (m := m) hkl
    have hle := shF_le (R.take k) c m
    generalize hrr : R.getD k (0, 0, 0) = rr at rk hs
    have hw := worthR_le rr
    have ih' := fun v6 v7 v8 => ih (k + 1) v6 v7 v8 (by omega)
    rw [hs] at ih'
    have hd : WP mX10_shadeOf 8 [.ref 270, .int (nI c), .int (nI m), .int (nI (shF (R.take k) c m).1), .int (shF (R.take k) c m).2, .int (nI k), v6, v7, v8] [] w (I, Q, J) K ↔ WP mX10_shadeOf 78 [.ref 270, .int (nI c), .int (nI m), .int (nI (shF (R.take k) c m).1), .int (shF (R.take k) c m).2, .int (nI k), .int rr.1, .int rr.2.1, .int (nI (worthR rr))] [] w (I, Q, J) K := by
      rw [rX10_shadeOf_8]
      simp only [rX10_shadeOf_10, rX10_shadeOf_11, rX10_shadeOf_14, rX10_shadeOf_15, rX10_shadeOf_16, rX10_shadeOf_19, rX10_shadeOf_20, rX10_shadeOf_23, rX10_shadeOf_26, rX10_shadeOf_27, rX10_shadeOf_29, rX10_shadeOf_30, rX10_shadeOf_31, rX10_shadeOf_32, rX10_shadeOf_34, rX10_shadeOf_35, rX10_shadeOf_38, rX10_shadeOf_41, rX10_shadeOf_42, rX10_shadeOf_44, rX10_shadeOf_45, rX10_shadeOf_46, rX10_shadeOf_47, rX10_shadeOf_48, rX10_shadeOf_49, rX10_shadeOf_51, rX10_shadeOf_52, rX10_shadeOf_54, rX10_shadeOf_55, rX10_shadeOf_58, rX10_shadeOf_59, rX10_shadeOf_62, rX10_shadeOf_63, rX10_shadeOf_64, rX10_shadeOf_66, rX10_shadeOf_67, rX10_shadeOf_70, rX10_shadeOf_71, rX10_shadeOf_74, rX10_shadeOf_75, rX10_shadeOf_76, o, q0, w1, rf_some, true_and, v2, show (2 : Int32).toNatClampNeg = 2 by decide, h2, ixR, nI_1, vin_nI (show 337 + 3 * k < 373 by omega) (by decide), nI_clamp (show 337 + 3 * k < 2 ^ 31 by omega), vin_nI (show 337 + 3 * k + 1 < 373 by omega) (by decide), nI_clamp (show 337 + 3 * k + 1 < 2 ^ 31 by omega), rk.1, rk.2.1]
      rw [if_neg (nI_ge hkl (by omega))]
      unfold worthR
      by_cases e1 : rr.1 = -1 <;> by_cases e2 : rr.2.1 = -1
      · rw [if_neg (fun z => z e1), if_neg (fun z => z e2), if_pos e1, if_pos e2]; rfl
      · rw [if_neg (fun z => z e1), if_pos e2, if_pos e1, if_neg e2]; rfl
      · rw [if_pos e1, if_neg (fun z => z e2), if_neg e1, if_pos e2]; rfl
      · rw [if_pos e1, if_pos e2, if_neg e1, if_neg e2]; rfl
    rw [hd]
    simp only [rX10_shadeOf_78, rX10_shadeOf_80, rX10_shadeOf_81, rX10_shadeOf_84, rX10_shadeOf_86, rX10_shadeOf_87, rX10_shadeOf_90, rX10_shadeOf_92, rX10_shadeOf_93, rX10_shadeOf_96, rX10_shadeOf_98, rX10_shadeOf_99, rX10_shadeOf_102, rX10_shadeOf_104, rX10_shadeOf_105]
    rw [show (if rr.1 = -1 then (if rr.2.1 = -1 then (if nI (worthR rr) < nI (shF (R.take k) c m).1 then WP mX10_shadeOf 128 [.ref 270, .int (nI c), .int (nI m), .int (nI (shF (R.take k) c m).1), .int (shF (R.take k) c m).2, .int (nI k), .int rr.1, .int rr.2.1, .int (nI (worthR rr))] [] w (I, Q, J) K else WP mX10_shadeOf 108 [.ref 270, .int (nI c), .int (nI m), .int (nI (shF (R.take k) c m).1), .int (shF (R.take k) c m).2, .int (nI k), .int rr.1, .int rr.2.1, .int (nI (worthR rr))] [] w (I, Q, J) K) else if ¬ rr.2.1 = nI m then WP mX10_shadeOf 128 [.ref 270, .int (nI c), .int (nI m), .int (nI (shF (R.take k) c m).1), .int (shF (R.take k) c m).2, .int (nI k), .int rr.1, .int rr.2.1, .int (nI (worthR rr))] [] w (I, Q, J) K else (if nI (worthR rr) < nI (shF (R.take k) c m).1 then WP mX10_shadeOf 128 [.ref 270, .int (nI c), .int (nI m), .int (nI (shF (R.take k) c m).1), .int (shF (R.take k) c m).2, .int (nI k), .int rr.1, .int rr.2.1, .int (nI (worthR rr))] [] w (I, Q, J) K else WP mX10_shadeOf 108 [.ref 270, .int (nI c), .int (nI m), .int (nI (shF (R.take k) c m).1), .int (shF (R.take k) c m).2, .int (nI k), .int rr.1, .int rr.2.1, .int (nI (worthR rr))] [] w (I, Q, J) K)) else if ¬ rr.1 = nI c then WP mX10_shadeOf 128 [.ref 270, .int (nI c), .int (nI m), .int (nI (shF (R.take k) c m).1), .int (shF (R.take k) c m).2, .int (nI k), .int rr.1, .int rr.2.1, .int (nI (worthR rr))] [] w (I, Q, J) K else (if rr.2.1 = -1 then (if nI (worthR rr) < nI (shF (R.take k) c m).1 then WP mX10_shadeOf 128 [.ref 270, .int (nI c), .int (nI m), .int (nI (shF (R.take k) c m).1), .int (shF (R.take k) c m).2, .int (nI k), .int rr.1, .int rr.2.1, .int (nI (worthR rr))] [] w (I, Q, J) K else WP mX10_shadeOf 108 [.ref 270, .int (nI c), .int (nI m), .int (nI (shF (R.take k) c m).1), .int (shF (R.take k) c m).2, .int (nI k), .int rr.1, .int rr.2.1, .int (nI (worthR rr))] [] w (I, Q, J) K) else if ¬ rr.2.1 = nI m then WP mX10_shadeOf 128 [.ref 270, .int (nI c), .int (nI m), .int (nI (shF (R.take k) c m).1), .int (shF (R.take k) c m).2, .int (nI k), .int rr.1, .int rr.2.1, .int (nI (worthR rr))] [] w (I, Q, J) K else (if nI (worthR rr) < nI (shF (R.take k) c m).1 then WP mX10_shadeOf 128 [.ref 270, .int (nI c), .int (nI m), .int (nI (shF (R.take k) c m).1), .int (shF (R.take k) c m).2, .int (nI k), .int rr.1, .int rr.2.1, .int (nI (worthR rr))] [] w (I, Q, J) K else WP mX10_shadeOf 108 [.ref 270, .int (nI c), .int (nI m), .int (nI (shF (R.take k) c m).1), .int (shF (R.take k) c m).2, .int (nI k), .int rr.1, .int rr.2.1, .int (nI (worthR rr))] [] w (I, Q, J) K))) ↔ _ from fits_if (x1 := rr.1) (x2 := rr.2.1) (x3 := rr.2.2)]
    by_cases hf : fitsR rr c m
    · rw [if_pos hf]
      by_cases hb : (shF (R.take k) c m).1 ≤ worthR rr
      · rw [stpR_pos ⟨hf, hb⟩] at ih'
        rw [if_neg (nI_nlt hb (by omega))]
        simp only [rX10_shadeOf_108, rX10_shadeOf_110, rX10_shadeOf_111, rX10_shadeOf_112, rX10_shadeOf_115, rX10_shadeOf_118, rX10_shadeOf_119, rX10_shadeOf_121, rX10_shadeOf_122, rX10_shadeOf_123, rX10_shadeOf_124, rX10_shadeOf_125, rX10_shadeOf_126, rX10_shadeOf_128, rX10_shadeOf_131, o, q0, w1, rf_some, true_and, ixR, show nI (337 + 3 * k) + 2 = nI (337 + 3 * k + 2) from nI_add _ 2, vin_nI (show 337 + 3 * k + 2 < 373 by omega) (by decide), nI_clamp (show 337 + 3 * k + 2 < 2 ^ 31 by omega), rk.2.2, nI_1]
        exact ih' _ _ _
      · rw [stpR_neg (fun z => hb z.2)] at ih'
        rw [if_pos (nI_lt (show worthR rr < (shF (R.take k) c m).1 by omega) (by omega))]
        simp only [rX10_shadeOf_128, rX10_shadeOf_131, nI_1]
        exact ih' _ _ _
    · rw [if_neg hf]
      rw [stpR_neg (fun z => hf z.1)] at ih'
      simp only [rX10_shadeOf_128, rX10_shadeOf_131, nI_1]
      exact ih' _ _ _
theorem M_shadeOf {R : List RU} {c m : Nat} (ok : mOK w Q) (hR : R.length ≤ 12) (h2 : I 271 2 = nI R.length) (hr : ∀ k, k < R.length → ruM (I 271) k (R.getD k (0, 0, 0))) : WP mX10_shadeOf 0 [.ref 270, .int (nI c), .int (nI m), .null, .null, .null, .null, .null, .null] [] w (I, Q, J) K ↔ K (some (.int (shF R c m).2)) w (I, Q, J) := by
  rw [← M_shade_loop (J := J) (K := K) (c := c) (m := m) ok hR h2 hr R.length 0 .null .null .null rfl]
  simp only [rX10_shadeOf_0, rX10_shadeOf_1, rX10_shadeOf_2, rX10_shadeOf_3, rX10_shadeOf_5, rX10_shadeOf_6]
  rfl
end M7
