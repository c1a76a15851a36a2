/-! ===== the reference: what is asked of lines ===== -/
section M8
variable {w : WS} {I : Nat → Nat → Int32} {Q : Nat → Nat → Option Nat} {J : Nat → Nat → Int64} {K : Option Value → WS → HS → Prop} {S : SP}
theorem M_isLine {k : Int32} (ok : mOK w Q) {n : Nat} (h : I 271 0 = nI n) (hn : n < 1000) : WP mX10_isLine 0 [.ref 270, .int k] [] w (I, Q, J) K ↔ K (some (.int (if inR k n then 1 else 0))) w (I, Q, J) := by
  obtain ⟨o, ⟨q0, -⟩, w1, -⟩ := id ok
  have v0 : vin 0 373 := vin_nI (n := 0) (by decide) (by decide)
  simp only [rX10_isLine_0, rX10_isLine_1, rX10_isLine_2, rX10_isLine_3, rX10_isLine_6, rX10_isLine_7, rX10_isLine_8, rX10_isLine_9, rX10_isLine_10, rX10_isLine_13, o, q0, w1, rf_some, true_and, v0, cl0, h, M_in, tl_some, rgP hn]
  by_cases q : inR k n
  · rw [if_pos q]; simp
  · rw [if_neg q]; simp
theorem M_byteTold {k i x : Nat} (ms : MS w I Q S) (hv : SV S) (hk : k < S.2.1.1.length) (hi : i < (S.2.1.1.getD k []).length) (hx : x < 3) : WP mX10_byteTold 0 [.ref 270, .int (nI k), .int (nI i), .int (nI x), .null] [] w (I, Q, J) K ↔ K (some (.int (atV S k i x))) w (I, Q, J) := by
  obtain ⟨ok, c2, c3, c4, c5, c6, c7⟩ := id ms
  obtain ⟨o, ⟨q0, q1, q3, q4, q7, q8, q9, q10, q11⟩, w1, w2, w3, w4, w5, w6, -⟩ := id ok
  have h10 := hv.2.1.1.1
  have h30 := hv.2.1.1.2 k hk
  have hcl := (c7 k hk).1 i (by rw [show (lineP S.2.1.2.1 (S.2.1.1.getD k []) (stAt S.2.1.2.1 S.2.1.1 k)).1.length = (S.2.1.1.getD k []).length from colS_len S k]; exact hi)
  have e1 : I 275 (30 * k + i) = ((colS S k).getD i (0, 0)).1 := hcl.1
  have e2 : I 276 (30 * k + i) = ((colS S k).getD i (0, 0)).2 := hcl.2
  have e13 : (13 : Int32) + nI (30 * k + i) = nI (13 + 30 * k + i) := by rw [show (13 : Int32) = nI 13 from rfl, nI_add]; congr 1; omega
  rcases (show x = 0 ∨ x = 1 ∨ x = 2 by omega) with rfl | rfl | rfl
  · simp only [rX10_byteTold_0, rX10_byteTold_2, rX10_byteTold_3, rX10_byteTold_4, rX10_byteTold_5, rX10_byteTold_6, rX10_byteTold_8, rX10_byteTold_9, rX10_byteTold_12, rX10_byteTold_13, rX10_byteTold_16, rX10_byteTold_18, rX10_byteTold_20, rX10_byteTold_21, rX10_byteTold_22, rX10_byteTold_25, rX10_byteTold_26, rX10_byteTold_27, rX10_byteTold_30, rX10_byteTold_31, rX10_byteTold_34, rX10_byteTold_36, rX10_byteTold_37, rX10_byteTold_40, rX10_byteTold_41, rX10_byteTold_42, rX10_byteTold_45, rX10_byteTold_47, rX10_byteTold_48, rX10_byteTold_49, rX10_byteTold_52, rX10_byteTold_54, rX10_byteTold_55, rX10_byteTold_58, o, q0, w1, rf_some, true_and, ixC, e13, vin_nI (show 13 + 30 * k + i < 373 by omega) (by decide), nI_clamp (show 13 + 30 * k + i < 2 ^ 31 by omega)]
    rw [if_neg (show ¬ ¬ nI 0 = 0 from fun z => z rfl), (c2.2.1 k hk).2 i hi]
    rfl
  · simp only [rX10_byteTold_0, rX10_byteTold_2, rX10_byteTold_3, rX10_byteTold_4, rX10_byteTold_5, rX10_byteTold_6, rX10_byteTold_8, rX10_byteTold_9, rX10_byteTold_12, rX10_byteTold_13, rX10_byteTold_16, rX10_byteTold_18, rX10_byteTold_20, rX10_byteTold_21, rX10_byteTold_22, rX10_byteTold_25, rX10_byteTold_26, rX10_byteTold_27, rX10_byteTold_30, rX10_byteTold_31, rX10_byteTold_34, rX10_byteTold_36, rX10_byteTold_37, rX10_byteTold_40, rX10_byteTold_41, rX10_byteTold_42, rX10_byteTold_45, rX10_byteTold_47, rX10_byteTold_48, rX10_byteTold_49, rX10_byteTold_52, rX10_byteTold_54, rX10_byteTold_55, rX10_byteTold_58, o, q7, w5, rf_some, true_and, ixC, vin_nI (show 30 * k + i < 300 by omega) (by decide), nI_clamp (show 30 * k + i < 2 ^ 31 by omega), e1]
    rw [if_pos (show ¬ nI 1 = 0 by decide), if_neg (show ¬ ¬ nI 1 = 1 from fun z => z rfl)]
    rfl
  · obtain ⟨cc, mm, hc8, hm3, hcm⟩ := colS_ok (S := S) (k := k) hi
    have ev : atV S k i 2 = (shF S.2.1.2.2 cc mm).2 := by
      unfold atV
      rw [if_neg (by decide), if_neg (by decide), hcm]
      dsimp only
      rw [nI_clamp (by omega), nI_clamp (by omega)]
    rw [ev]
    simp only [rX10_byteTold_0, rX10_byteTold_2, rX10_byteTold_3, rX10_byteTold_4, rX10_byteTold_5, rX10_byteTold_6, rX10_byteTold_8, rX10_byteTold_9, rX10_byteTold_12, rX10_byteTold_13, rX10_byteTold_16, rX10_byteTold_18, rX10_byteTold_20, rX10_byteTold_21, rX10_byteTold_22, rX10_byteTold_25, rX10_byteTold_26, rX10_byteTold_27, rX10_byteTold_30, rX10_byteTold_31, rX10_byteTold_34, rX10_byteTold_36, rX10_byteTold_37, rX10_byteTold_40, rX10_byteTold_41, rX10_byteTold_42, rX10_byteTold_45, rX10_byteTold_47, rX10_byteTold_48, rX10_byteTold_49, rX10_byteTold_52, rX10_byteTold_54, rX10_byteTold_55, o, q7, q8, w5, w6, rf_some, true_and, ixC, vin_nI (show 30 * k + i < 300 by omega) (by decide), nI_clamp (show 30 * k + i < 2 ^ 31 by omega), e1, e2, hcm]
    rw [if_pos (show ¬ nI 2 = 0 by decide), if_pos (show ¬ nI 2 = 1 by decide), M_shadeOf ok hv.2.1.2.2 c2.1.2.2 c2.2.2.2]
    simp only [tl_some, rX10_byteTold_58]
theorem N_at {k i x : Int32} (ms : MS w I Q S) (hv : SV S) : MA w I Q J mX10_at [.ref 270, .int k, .int i, .int x, .null] (.int (sp_at k i x S).1) (sp_at k i x S).2 := by
  obtain ⟨ok, c2, c3, c4, c5, c6, c7⟩ := id ms
  obtain ⟨o, ⟨q0, q1, q3, q4, q7, q8, q9, q10, q11⟩, w1, w2, w3, w4, w5, w6, -⟩ := id ok
  have h10 := hv.2.1.1.1
  have hd : ∀ {K : Option Value → WS → HS → Prop}, WP mX10_at 0 [.ref 270, .int k, .int i, .int x, .null] [] w (I, Q, J) K ↔ if inR k S.2.1.1.length ∧ inR i (S.2.1.1.getD k.toNatClampNeg []).length ∧ inR x 3 then WP mX10_at 40 [.ref 270, .int k, .int i, .int x, .null] [.int 1] w (I, Q, J) K else WP mX10_at 40 [.ref 270, .int k, .int i, .int x, .null] [.int 0] w (I, Q, J) K := by
    intro K
    simp only [rX10_at_0, rX10_at_1, rX10_at_2, o, true_and, M_isLine ok c2.1.1 (show S.2.1.1.length < 1000 by omega), tl_some]
    simp only [rX10_at_5, rX10_at_39, if10]
    by_cases hk : inR k S.2.1.1.length
    · rw [if_pos hk]
      obtain ⟨kk, hkk, rfl⟩ := inR_of (by omega) hk
      rw [nI_clamp (show kk < 2 ^ 31 by omega)]
      have h30 := hv.2.1.1.2 kk hkk
      simp only [rX10_at_8, rX10_at_9, rX10_at_10, rX10_at_11, rX10_at_14, rX10_at_15, rX10_at_16, rX10_at_17, rX10_at_18, rX10_at_19, rX10_at_20, o, q0, w1, rf_some, true_and, ixL, vin_nI (show 3 + kk < 373 by omega) (by decide), nI_clamp (show 3 + kk < 2 ^ 31 by omega), (c2.2.1 kk hkk).1, M_in, tl_some, rgP (show (S.2.1.1.getD kk []).length < 1000 by omega)]
      simp only [rX10_at_23, rX10_at_26, rX10_at_27, rX10_at_28, rX10_at_29, rX10_at_32, rX10_at_35, rX10_at_36, rX10_at_39, if10, M_in, tl_some, rg2]
      by_cases h1 : inR i (S.2.1.1.getD kk []).length
      · rw [if_pos h1]
        by_cases h2 : inR x 3
        · rw [if_pos h2, if_pos ⟨hk, h1, h2⟩]
        · rw [if_neg h2, if_neg (fun z => h2 z.2.2)]
      · rw [if_neg h1, if_neg (fun z => h1 z.2.1)]
    · rw [if_neg hk, if_neg (fun z => hk z.1)]
  unfold sp_at
  by_cases hh : inR k S.2.1.1.length ∧ inR i (S.2.1.1.getD k.toNatClampNeg []).length ∧ inR x 3
  · rw [if_neg (fun z => z hh)]
    refine MA.same ms (fun K => ?_)
    rw [hd, if_pos hh]
    obtain ⟨h1, h2, h3⟩ := hh
    obtain ⟨kk, hkk, rfl⟩ := inR_of (by omega) h1
    rw [nI_clamp (show kk < 2 ^ 31 by omega)] at h2 ⊢
    have h30 := hv.2.1.1.2 kk hkk
    obtain ⟨ii, hii, rfl⟩ := inR_of (by omega) h2
    obtain ⟨xx, hxx, rfl⟩ := inR_of (by decide) h3
    rw [nI_clamp (show ii < 2 ^ 31 by omega), nI_clamp (show xx < 2 ^ 31 by omega)]
    simp only [rX10_at_40, rX10_at_42, rX10_at_44, rX10_at_47, rX10_at_48, rX10_at_49, rX10_at_50, rX10_at_51, o, true_and]
    rw [if_neg (by decide), M_byteTold ms hv hkk hii hxx]
    simp only [tl_some, rX10_at_54, rX10_at_63]
  · rw [if_pos hh]
    refine MA.bad ms (fun K => ?_)
    rw [hd, if_neg hh]
    simp only [rX10_at_40, rX10_at_42, rX10_at_44, rX10_at_57, rX10_at_58, rX10_at_60, rX10_at_63, o, true_and, mrB ok, tl_some, if_true]
theorem M_begins {k i : Nat} (ms : MS w I Q S) (hv : SV S) (hk : k < S.2.1.1.length) (hi : i < (S.2.1.1.getD k []).length) : WP mX10_begins 0 [.ref 270, .int (nI k), .int (nI i)] [] w (I, Q, J) K ↔ K (some (.int (if begC (colS S k) i then 1 else 0))) w (I, Q, J) := by
  obtain ⟨ok, c2, c3, c4, c5, c6, c7⟩ := id ms
  obtain ⟨o, ⟨q0, q1, q3, q4, q7, q8, q9, q10, q11⟩, w1, w2, w3, w4, w5, w6, -⟩ := id ok
  have h10 := hv.2.1.1.1
  have h30 := hv.2.1.1.2 k hk
  have hcl : ∀ i, i < (S.2.1.1.getD k []).length → I 275 (30 * k + i) = ((colS S k).getD i (0, 0)).1 := fun i hi => ((c7 k hk).1 i (by rw [show (lineP S.2.1.2.1 (S.2.1.1.getD k []) (stAt S.2.1.2.1 S.2.1.1 k)).1.length = (S.2.1.1.getD k []).length from colS_len S k]; exact hi)).1
  unfold begC
  by_cases h0 : i = 0
  · subst h0
    simp only [rX10_begins_0, rX10_begins_1, rX10_begins_31, rX10_begins_32, rX10_begins_35, rX10_begins_36]
    rw [if_pos (show nI 0 = 0 from rfl)]
    simp
  · simp only [rX10_begins_0, rX10_begins_1, rX10_begins_4, rX10_begins_5, rX10_begins_8, rX10_begins_10, rX10_begins_11, rX10_begins_12, rX10_begins_13, rX10_begins_14, rX10_begins_15, rX10_begins_16, rX10_begins_19, rX10_begins_21, rX10_begins_22, rX10_begins_23, rX10_begins_24, rX10_begins_25, rX10_begins_26, rX10_begins_27, rX10_begins_28, rX10_begins_31, rX10_begins_32, rX10_begins_35, rX10_begins_36, o, q7, w5, rf_some, true_and, ixC, vin_nI (show 30 * k + i < 300 by omega) (by decide), nI_clamp (show 30 * k + i < 2 ^ 31 by omega), show nI (30 * k + i) - 1 = nI (30 * k + (i - 1)) from (pk_sub (show 1 ≤ 30 * k + i by omega)).trans (congrArg nI (show 30 * k + i - 1 = 30 * k + (i - 1) by omega)), vin_nI (show 30 * k + (i - 1) < 300 by omega) (by decide), nI_clamp (show 30 * k + (i - 1) < 2 ^ 31 by omega), hcl i hi, hcl (i - 1) (by omega)]
    rw [if_neg (show ¬ nI i = 0 from fun z => h0 (nI_inj (b := 0) (by omega) (by decide) z))]
    by_cases e : ((colS S k).getD i (0, 0)).1 = ((colS S k).getD (i - 1) (0, 0)).1
    · rw [if_pos e, if_neg (by rw [e]; simp [h0])]; simp
    · rw [if_neg e, if_pos (by simp only [bne_iff_ne, ne_eq, e, not_false_eq_true, Bool.or_eq_true, or_true])]; simp
theorem M_spans_loop {k : Nat} (ms : MS w I Q S) (hv : SV S) (hk : k < S.2.1.1.length) : ∀ n i s, n + i = (S.2.1.1.getD k []).length → (WP mX10_spansOf 4 [.ref 270, .int (nI k), .int (nI s), .int (nI i)] [] w (I, Q, J) K ↔ K (some (.int (nI (s + cntF (begC (colS S k)) n i)))) w (I, Q, J)) := by
  obtain ⟨ok, c2, c3, c4, c5, c6, c7⟩ := id ms
  obtain ⟨o, ⟨q0, q1, q3, q4, q7, q8, q9, q10, q11⟩, w1, w2, w3, w4, w5, w6, -⟩ := id ok
  have h10 := hv.2.1.1.1
  have h30 := hv.2.1.1.2 k hk
  intro n
  induction n with
  | zero =>
    intro i s hi
    rw [rX10_spansOf_4]
    simp only [rX10_spansOf_5, rX10_spansOf_6, rX10_spansOf_9, rX10_spansOf_10, rX10_spansOf_11, rX10_spansOf_12, rX10_spansOf_13, rX10_spansOf_39, rX10_spansOf_40, o, q0, w1, rf_some, true_and, ixL, vin_nI (show 3 + k < 373 by omega) (by decide), nI_clamp (show 3 + k < 2 ^ 31 by omega), (c2.2.1 k hk).1]
    rw [if_pos (nI_le (show (S.2.1.1.getD k []).length ≤ i by omega) (by omega))]
    rfl
  | succ n ih =>
    intro i s hi
    rw [rX10_spansOf_4]
    simp only [rX10_spansOf_5, rX10_spansOf_6, rX10_spansOf_9, rX10_spansOf_10, rX10_spansOf_11, rX10_spansOf_12, rX10_spansOf_13, rX10_spansOf_16, rX10_spansOf_17, rX10_spansOf_18, rX10_spansOf_19, rX10_spansOf_20, o, q0, w1, rf_some, true_and, ixL, vin_nI (show 3 + k < 373 by omega) (by decide), nI_clamp (show 3 + k < 2 ^ 31 by omega), (c2.2.1 k hk).1]
    rw [if_neg (nI_ge (show i < (S.2.1.1.getD k []).length by omega) (by omega)), M_begins ms hv hk (show i < (S.2.1.1.getD k []).length by omega)]
    simp only [tl_some, List.cons_append, List.nil_append, rX10_spansOf_23, rX10_spansOf_26, rX10_spansOf_27, rX10_spansOf_30, rX10_spansOf_31, rX10_spansOf_32, rX10_spansOf_33, rX10_spansOf_36, if10, nI_1]
    have hc : ∀ b : Bool, begC (colS S k) i = b → cntF (begC (colS S k)) (n + 1) i = (if b then 1 else 0) + cntF (begC (colS S k)) n (i + 1) := fun b hb => by simp only [cntF, hb]
    cases hb : begC (colS S k) i
    · rw [hc _ hb, if_neg (by decide), show nI s + 0 = nI (s + 0) from nI_add s 0, ih (i + 1) (s + 0) (by omega)]
      simp
    · rw [hc _ hb, if_pos rfl, ih (i + 1) (s + 1) (by omega)]
      simp [Nat.add_assoc]
theorem M_manyOf {E : List Nat × Nat} (hE : stV E) {h : HS} : WP mX10_manyOf 0 [.int (nI (cod E))] [] w h K ↔ K (some (.int (nI E.1.length))) w h := by
  have h1 := cod_lt hE
  have h2 := pil12 hE
  have h3 := hE.2.1
  simp only [rX10_manyOf_0, rX10_manyOf_1, rX10_manyOf_3, rX10_manyOf_4, rX10_manyOf_6, rX10_manyOf_7]
  rw [show (12 : Int32) = nI 12 from rfl, show (15 : Int32) = nI (2 ^ 4 - 1) from rfl, nI_shr (by decide) (by omega), nI_andm (by decide) (by omega), show cod E / 2 ^ 12 % 2 ^ 4 = E.1.length by unfold cod; omega]
theorem M_topOf {E : List Nat × Nat} (hE : stV E) {h : HS} : WP mX10_topOf 0 [.int (nI (cod E))] [] w h K ↔ K (some (.int (nI (topP E.1)))) w h := by
  have h1 := cod_lt hE
  have h2 := pil12 hE
  have h3 := hE.2.1
  have h4 := hE.1
  simp only [rX10_topOf_0, rX10_topOf_1, rX10_topOf_4, rX10_topOf_5, rX10_topOf_6, rX10_topOf_7, rX10_topOf_10, rX10_topOf_11, rX10_topOf_12, rX10_topOf_13, rX10_topOf_14, rX10_topOf_15, rX10_topOf_16, M_manyOf hE, tl_some, List.cons_append, List.nil_append]
  rw [show (4095 : Int32) = nI (2 ^ 12 - 1) from rfl, nI_andm (by decide) (by omega), show cod E % 2 ^ 12 = pilN E.1 by unfold cod; omega, show nI E.1.length - 1 = nI (E.1.length - 1) from pk_sub h4, nI_mul2 (by omega), pl_at hE.2.2.1 h3 (by omega)]
  rfl
theorem M_lineTold {k x : Nat} (ms : MS w I Q S) (hv : SV S) (hk : k < S.2.1.1.length) (hx : x < 6) : WP mX10_lineTold 0 [.ref 270, .int (nI k), .int (nI x), .null, .null] [] w (I, Q, J) K ↔ K (some (.int (ofV S k x))) w (I, Q, J) := by
  obtain ⟨ok, c2, c3, c4, c5, c6, c7⟩ := id ms
  obtain ⟨o, ⟨q0, q1, q3, q4, q7, q8, q9, q10, q11⟩, w1, w2, w3, w4, w5, w6, w7, -⟩ := id ok
  have h10 := hv.2.1.1.1
  have h30 := hv.2.1.1.2 k hk
  have hE : stV (endS S k) := stAt_ok _ _ _
  have he : I 277 k = nI (cod (endS S k)) := (c7 k hk).2
  have ht : topP (endS S k).1 < 4 := top_lt (m := (endS S k).2) hE
  have h1 := cod_lt hE
  have h12 := pil12 hE
  have h6 := hE.2.1
  have h26 := hE.2.2.2.2
  have hd : WP mX10_lineTold 0 [.ref 270, .int (nI k), .int (nI x), .null, .null] [] w (I, Q, J) K ↔ WP mX10_lineTold 14 [.ref 270, .int (nI k), .int (nI x), .int (nI (cod (endS S k))), .int (nI (topP (endS S k).1))] [.int (nI x)] w (I, Q, J) K := by
    simp only [rX10_lineTold_0, rX10_lineTold_1, rX10_lineTold_4, rX10_lineTold_5, rX10_lineTold_6, rX10_lineTold_7, rX10_lineTold_8, rX10_lineTold_11, rX10_lineTold_13, o, q9, w7, rf_some, true_and, vin_nI (show k < 10 by omega) (by decide), nI_clamp (show k < 2 ^ 31 by omega), he, M_topOf hE, tl_some]
  rw [hd]
  have e16 : nI (cod (endS S k)) >>> (16 &&& 31) = nI (endS S k).2 := by
    rw [show (16 : Int32) = nI 16 from rfl, nI_shr (by decide) (by omega)]
    congr 1
    unfold cod; omega
  rcases (show x = 0 ∨ x = 1 ∨ x = 2 ∨ x = 3 ∨ x = 4 ∨ x = 5 by omega) with rfl | rfl | rfl | rfl | rfl | rfl
  · rw [show nI 0 = 0 from rfl, rX10_lineTold_14_0]
    simp only [rX10_lineTold_48, rX10_lineTold_49, rX10_lineTold_52, rX10_lineTold_53, rX10_lineTold_54, rX10_lineTold_55, rX10_lineTold_56, o, q0, w1, rf_some, true_and, ixL, vin_nI (show 3 + k < 373 by omega) (by decide), nI_clamp (show 3 + k < 2 ^ 31 by omega), (c2.2.1 k hk).1]
    rfl
  · rw [show nI 1 = 1 from rfl, rX10_lineTold_14_1]
    have := M_spans_loop (J := J) (K := fun r w h => WP mX10_lineTold 62 [.ref 270, .int (nI k), .int 1, .int (nI (cod (endS S k))), .int (nI (topP (endS S k).1))] (r.toList ++ []) w h K) ms hv hk (S.2.1.1.getD k []).length 0 0 rfl
    simp only [rX10_lineTold_57, rX10_lineTold_58, rX10_lineTold_59, o, true_and, rX10_spansOf_0, rX10_spansOf_1, rX10_spansOf_2, rX10_spansOf_3]
    rw [show (0 : Int32) = nI 0 from rfl, this]
    simp only [tl_some, rX10_lineTold_62, Nat.zero_add]
    rfl
  · rw [show nI 2 = 2 from rfl, rX10_lineTold_14_2]
    simp only [rX10_lineTold_63, rX10_lineTold_64, rX10_lineTold_67, M_manyOf hE, tl_some]
    rfl
  · rw [show nI 3 = 3 from rfl, rX10_lineTold_14_3]
    simp only [rX10_lineTold_68, rX10_lineTold_70, rX10_lineTold_73, M_modeOf ht, tl_some]
    rfl
  · rw [show nI 4 = 4 from rfl, rX10_lineTold_14_4]
    simp only [rX10_lineTold_74, rX10_lineTold_76, rX10_lineTold_77, rX10_lineTold_80, rX10_lineTold_82, rX10_lineTold_85, rX10_lineTold_87, rX10_lineTold_88, rX10_lineTold_91, rX10_lineTold_93, rX10_lineTold_96, rX10_lineTold_97]
    rw [show ofV S k 4 = (if topP (endS S k).1 = 1 then 34 else if topP (endS S k).1 = 2 then 39 else -1) from rfl]
    clear hd
    generalize topP (endS S k).1 = tt at ht ⊢
    rcases (show tt = 0 ∨ tt = 1 ∨ tt = 2 ∨ tt = 3 by omega) with rfl | rfl | rfl | rfl
    · rw [if_pos (by decide), if_pos (by decide), if_neg (by decide), if_neg (by decide)]
    · rw [if_neg (by decide), if_pos rfl]
    · rw [if_pos (by decide), if_neg (by decide), if_neg (by decide), if_pos rfl]
    · rw [if_pos (by decide), if_pos (by decide), if_neg (by decide), if_neg (by decide)]
  · rw [rX10_lineTold_14_d (Or.inr (by rw [nI_toInt (by decide)]; decide))]
    simp only [rX10_lineTold_98, rX10_lineTold_99, rX10_lineTold_101, rX10_lineTold_102, rX10_lineTold_105, rX10_lineTold_106, rX10_lineTold_109, rX10_lineTold_111, rX10_lineTold_112, rX10_lineTold_114, rX10_lineTold_115, rX10_lineTold_116, rX10_lineTold_117, rX10_lineTold_118, e16]
    rw [show ofV S k 5 = mkI (endS S k).2 from rfl]
    unfold mkI
    by_cases hz : (endS S k).2 = 0
    · rw [if_neg (show ¬ ¬ nI (endS S k).2 = 0 from fun z => z (by rw [hz]; rfl)), if_pos hz]
    · rw [if_pos (show ¬ nI (endS S k).2 = 0 from fun z => hz (nI_inj (b := 0) (by omega) (by decide) z)), if_neg hz, show (65 : Int32) + nI (endS S k).2 = nI (65 + (endS S k).2) from nI_add 65 _, show nI (65 + (endS S k).2) - 1 = nI (65 + (endS S k).2 - 1) from pk_sub (show 1 ≤ 65 + (endS S k).2 by omega), show 65 + (endS S k).2 - 1 = 64 + (endS S k).2 by omega]
theorem N_of {k x : Int32} (ms : MS w I Q S) (hv : SV S) : MA w I Q J mX10_of [.ref 270, .int k, .int x] (.int (sp_of k x S).1) (sp_of k x S).2 := by
  obtain ⟨ok, c2, c3, c4, c5, c6, c7⟩ := id ms
  obtain ⟨o, -⟩ := id ok
  have h10 := hv.2.1.1.1
  unfold sp_of
  by_cases hk : inR k S.2.1.1.length
  · by_cases hx : inR x 6
    · rw [if_neg (fun z => z ⟨hk, hx⟩)]
      obtain ⟨kk, hkk, rfl⟩ := inR_of (by omega) hk
      obtain ⟨xx, hxx, rfl⟩ := inR_of (by decide) hx
      refine MA.same ms (fun K => ?_)
      rw [nI_clamp (show kk < 2 ^ 31 by omega), nI_clamp (show xx < 2 ^ 31 by omega)]
      simp only [rX10_of_0, rX10_of_1, rX10_of_2, o, true_and, M_isLine ok c2.1.1 (show S.2.1.1.length < 1000 by omega), tl_some]
      simp only [rX10_of_5, rX10_of_8, rX10_of_9, rX10_of_10, rX10_of_11, rX10_of_14, rX10_of_17, rX10_of_18, rX10_of_19, rX10_of_20, if10, M_in, tl_some, rg5, o, true_and, M_lineTold ms hv hkk hxx]
      simp only [rX10_of_23, rX10_of_32]
      rw [if_pos hk, if_pos hx]
    · rw [if_pos (fun z => hx z.2)]
      refine MA.bad ms (fun K => ?_)
      simp only [rX10_of_0, rX10_of_1, rX10_of_2, o, true_and, M_isLine ok c2.1.1 (show S.2.1.1.length < 1000 by omega), tl_some]
      simp only [rX10_of_5, rX10_of_8, rX10_of_9, rX10_of_10, rX10_of_11, rX10_of_14, rX10_of_26, rX10_of_27, rX10_of_29, rX10_of_32, if10, M_in, tl_some, rg5, o, true_and, mrB ok]
      rw [if_pos hk, if_neg hx]
  · rw [if_pos (fun z => hk z.1)]
    refine MA.bad ms (fun K => ?_)
    simp only [rX10_of_0, rX10_of_1, rX10_of_2, o, true_and, M_isLine ok c2.1.1 (show S.2.1.1.length < 1000 by omega), tl_some]
    simp only [rX10_of_5, rX10_of_26, rX10_of_27, rX10_of_29, rX10_of_32, if10, o, true_and, mrB ok, tl_some]
    rw [if_neg hk]
end M8
