section M9
variable {w : WS} {I : Nat → Nat → Int32} {Q : Nat → Nat → Option Nat} {J : Nat → Nat → Int64} {K : Option Value → WS → HS → Prop} {S : SP}
theorem M_span_to {k e x : Nat} {i0 v4 : Int32} (ms : MS w I Q S) (hv : SV S) (hk : k < S.2.1.1.length) : ∀ n t, n + t = (S.2.1.1.getD k []).length → (WP mX10_span 68 [.ref 270, .int (nI k), .int i0, .int (nI x), .int v4, .int (nI e), .int (nI t)] [] w (I, Q, J) K ↔ WP mX10_span 97 [.ref 270, .int (nI k), .int i0, .int (nI x), .int v4, .int (nI e), .int (nI (endF (begC (colS S k)) n t))] [] w (I, Q, J) K) := by
  obtain ⟨ok, c2, c3, c4, c5, c6, c7⟩ := id ms
  obtain ⟨o, ⟨q0, q1, q3, q4, q7, q8, q9, q10, q11⟩, w1, w2, w3, w4, w5, w6, -⟩ := id ok
  have h10 := hv.2.1.1.1
  have h30 := hv.2.1.1.2 k hk
  intro n
  induction n with
  | zero =>
    intro t ht
    rw [rX10_span_68]
    simp only [rX10_span_70, rX10_span_71, rX10_span_74, rX10_span_75, rX10_span_76, rX10_span_77, rX10_span_78, o, q0, w1, rf_some, true_and, ixL, vin_nI (show 3 + k < 373 by omega) (by decide), nI_clamp (show 3 + k < 2 ^ 31 by omega), (c2.2.1 k hk).1]
    rw [if_pos (nI_le (show (S.2.1.1.getD k []).length ≤ t by omega) (by omega))]
    rfl
  | succ n ih =>
    intro t ht
    rw [rX10_span_68]
    simp only [rX10_span_70, rX10_span_71, rX10_span_74, rX10_span_75, rX10_span_76, rX10_span_77, rX10_span_78, rX10_span_81, rX10_span_82, rX10_span_83, rX10_span_85, o, q0, w1, rf_some, true_and, ixL, vin_nI (show 3 + k < 373 by omega) (by decide), nI_clamp (show 3 + k < 2 ^ 31 by omega), (c2.2.1 k hk).1]
    rw [if_neg (nI_ge (show t < (S.2.1.1.getD k []).length by omega) (by omega)), M_begins ms hv hk (show t < (S.2.1.1.getD k []).length by omega)]
    simp only [tl_some, rX10_span_88, rX10_span_91, rX10_span_94, ifn10, nI_1]
    have he : ∀ b : Bool, begC (colS S k) t = b → endF (begC (colS S k)) (n + 1) t = if b then t else endF (begC (colS S k)) n (t + 1) := fun b hb => by simp only [endF, hb]
    cases hb : begC (colS S k) t
    · rw [he _ hb, if_neg (by decide), if_neg (by decide), ih (t + 1) (by omega)]
    · rw [he _ hb, if_pos rfl, if_pos rfl]
theorem endF_le (f : Nat → Bool) : ∀ n i, i ≤ endF f n i ∧ endF f n i ≤ n + i
  | 0, i => ⟨Nat.le_refl _, by simp [endF]⟩
  | n + 1, i => by have := endF_le f n (i + 1); simp only [endF]; split <;> omega
def spR (S : SP) (k x b : Nat) : Int32 := if x = 0 then nI b else if x = 1 then nI (endF (begC (colS S k)) ((S.2.1.1.getD k []).length - (b + 1)) (b + 1) - b) else ((colS S k).getD b (0, 0)).1
def spO (S : SP) (k x : Nat) (o : Option Nat) : Int32 := match o with
  | none => -1
  | some b => spR S k x b
theorem M_span_loop {k x : Nat} {i0 : Int32} (ms : MS w I Q S) (hv : SV S) (hk : k < S.2.1.1.length) (hx : x < 3) : ∀ n e d (v6 : Value), n + e = (S.2.1.1.getD k []).length → d < 2 ^ 31 → (WP mX10_span 34 [.ref 270, .int (nI k), .int i0, .int (nI x), .int (nI d), .int (nI e), v6] [] w (I, Q, J) K ↔ K (some (.int (spO S k x (fndF (begC (colS S k)) n e d)))) w (I, Q, J)) := by
  obtain ⟨ok, c2, c3, c4, c5, c6, c7⟩ := id ms
  obtain ⟨o, ⟨q0, q1, q3, q4, q7, q8, q9, q10, q11⟩, w1, w2, w3, w4, w5, w6, -⟩ := id ok
  have h10 := hv.2.1.1.1
  have h30 := hv.2.1.1.2 k hk
  have hcl : ∀ i, i < (S.2.1.1.getD k []).length → I 275 (30 * k + i) = ((colS S k).getD i (0, 0)).1 := fun i hi => ((c7 k hk).1 i (by rw [show (lineP S.2.1.2.1 (S.2.1.1.getD k []) (stAt S.2.1.2.1 S.2.1.1 k)).1.length = (S.2.1.1.getD k []).length from colS_len S k]; exact hi)).1
  intro n
  induction n with
  | zero =>
    intro e d v6 he hd
    rw [rX10_span_34]
    simp only [rX10_span_36, rX10_span_37, rX10_span_40, rX10_span_41, rX10_span_42, rX10_span_43, rX10_span_44, rX10_span_141, rX10_span_142, o, q0, w1, rf_some, true_and, ixL, vin_nI (show 3 + k < 373 by omega) (by decide), nI_clamp (show 3 + k < 2 ^ 31 by omega), (c2.2.1 k hk).1]
    rw [if_pos (nI_le (show (S.2.1.1.getD k []).length ≤ e by omega) (by omega))]
    rfl
  | succ n ih =>
    intro e d v6 he hd
    have hel : e < (S.2.1.1.getD k []).length := by omega
    have hd0 : WP mX10_span 34 [.ref 270, .int (nI k), .int i0, .int (nI x), .int (nI d), .int (nI e), v6] [] w (I, Q, J) K ↔ if begC (colS S k) e = true then WP mX10_span 57 [.ref 270, .int (nI k), .int i0, .int (nI x), .int (nI d), .int (nI e), v6] [] w (I, Q, J) K else WP mX10_span 135 [.ref 270, .int (nI k), .int i0, .int (nI x), .int (nI d), .int (nI e), v6] [] w (I, Q, J) K := by
      rw [rX10_span_34]
      simp only [rX10_span_36, rX10_span_37, rX10_span_40, rX10_span_41, rX10_span_42, rX10_span_43, rX10_span_44, rX10_span_47, rX10_span_48, rX10_span_49, rX10_span_51, o, q0, w1, rf_some, true_and, ixL, vin_nI (show 3 + k < 373 by omega) (by decide), nI_clamp (show 3 + k < 2 ^ 31 by omega), (c2.2.1 k hk).1]
      rw [if_neg (nI_ge hel (by omega)), M_begins ms hv hk hel]
      simp only [tl_some, rX10_span_54, if10]
    rw [hd0]
    cases hb : begC (colS S k) e
    · rw [if_neg (by decide), show fndF (begC (colS S k)) (n + 1) e d = fndF (begC (colS S k)) n (e + 1) d by simp only [fndF, hb]; rfl]
      simp only [rX10_span_135, rX10_span_138, nI_1]
      exact ih (e + 1) d v6 (by omega) hd
    · rw [if_pos rfl]
      simp only [rX10_span_57, rX10_span_59]
      by_cases hz : d = 0
      · rw [show fndF (begC (colS S k)) (n + 1) e d = some e by simp only [fndF, hb, hz]; rfl, if_neg (show ¬ ¬ nI d = 0 from fun z => z (by rw [hz]; rfl))]
        simp only [rX10_span_62, rX10_span_64, rX10_span_65, rX10_span_66, nI_1]
        rw [M_span_to ms hv hk ((S.2.1.1.getD k []).length - (e + 1)) (e + 1) (by omega)]
        have hto := endF_le (begC (colS S k)) ((S.2.1.1.getD k []).length - (e + 1)) (e + 1)
        rcases (show x = 0 ∨ x = 1 ∨ x = 2 by omega) with rfl | rfl | rfl
        · simp only [rX10_span_97, rX10_span_98, rX10_span_101, rX10_span_103, rX10_span_131]
          rw [if_neg (show ¬ ¬ nI 0 = 0 from fun z => z rfl)]; rfl
        · simp only [rX10_span_97, rX10_span_98, rX10_span_106, rX10_span_107, rX10_span_108, rX10_span_111, rX10_span_113, rX10_span_115, rX10_span_116, rX10_span_131]
          rw [if_pos (show ¬ nI 1 = 0 by decide), if_neg (show ¬ ¬ nI 1 = 1 from fun z => z rfl), pk_sub (show e ≤ endF (begC (colS S k)) ((S.2.1.1.getD k []).length - (e + 1)) (e + 1) by omega)]; rfl
        · simp only [rX10_span_97, rX10_span_98, rX10_span_106, rX10_span_107, rX10_span_108, rX10_span_119, rX10_span_120, rX10_span_123, rX10_span_125, rX10_span_126, rX10_span_127, rX10_span_129, rX10_span_130, rX10_span_131, o, q7, w5, rf_some, true_and, ixC, vin_nI (show 30 * k + e < 300 by omega) (by decide), nI_clamp (show 30 * k + e < 2 ^ 31 by omega), hcl e hel]
          rw [if_pos (show ¬ nI 2 = 0 by decide), if_pos (show ¬ nI 2 = 1 by decide)]; rfl
      · obtain ⟨d', rfl⟩ : ∃ d', d = d' + 1 := ⟨d - 1, by omega⟩
        rw [show fndF (begC (colS S k)) (n + 1) e (d' + 1) = fndF (begC (colS S k)) n (e + 1) d' by simp only [fndF, hb]; rfl, if_pos (show ¬ nI (d' + 1) = 0 from fun z => hz (nI_inj (b := 0) (by omega) (by decide) z))]
        simp only [rX10_span_132, rX10_span_135, rX10_span_138, nI_1, pk_m1]
        exact ih (e + 1) d' v6 (by omega) (by omega)
theorem N_span {k i x : Int32} (ms : MS w I Q S) (hv : SV S) : MA w I Q J mX10_span [.ref 270, .int k, .int i, .int x, .null, .null, .null] (.int (sp_span k i x S).1) (sp_span k i x S).2 := by
  obtain ⟨ok, c2, c3, c4, c5, c6, c7⟩ := id ms
  obtain ⟨o, -⟩ := id ok
  have h10 := hv.2.1.1.1
  have hd : ∀ {K : Option Value → WS → HS → Prop}, WP mX10_span 0 [.ref 270, .int k, .int i, .int x, .null, .null, .null] [] w (I, Q, J) K ↔ if inR k S.2.1.1.length ∧ ¬ i < 0 ∧ inR x 3 then WP mX10_span 28 [.ref 270, .int k, .int i, .int x, .null, .null, .null] [] w (I, Q, J) K else WP mX10_span 21 [.ref 270, .int k, .int i, .int x, .null, .null, .null] [] w (I, Q, J) K := by
    intro K
    simp only [rX10_span_0, rX10_span_1, rX10_span_2, o, true_and, M_isLine ok c2.1.1 (show S.2.1.1.length < 1000 by omega), tl_some]
    simp only [rX10_span_5, rX10_span_8, rX10_span_9, rX10_span_12, rX10_span_13, rX10_span_14, rX10_span_15, rX10_span_18, if10, ifn10, M_in, tl_some, rg2]
    by_cases h1 : inR k S.2.1.1.length
    · rw [if_pos h1]
      by_cases h2 : i < 0
      · rw [if_pos h2, if_neg (fun z => z.2.1 h2)]
      · rw [if_neg h2]
        by_cases h3 : inR x 3
        · rw [if_pos h3, if_pos ⟨h1, h2, h3⟩]
        · rw [if_neg h3, if_neg (fun z => h3 z.2.2)]
    · rw [if_neg h1, if_neg (fun z => h1 z.1)]
  unfold sp_span
  by_cases hh : inR k S.2.1.1.length ∧ ¬ i < 0 ∧ inR x 3
  · rw [if_neg (fun z => z hh)]
    refine MA.same ms (fun K => ?_)
    rw [hd, if_pos hh]
    obtain ⟨h1, h2, h3⟩ := hh
    obtain ⟨kk, hkk, rfl⟩ := inR_of (by omega) h1
    obtain ⟨ii, hii, rfl⟩ := nI_of h2
    obtain ⟨xx, hxx, rfl⟩ := inR_of (by decide) h3
    rw [nI_clamp (show kk < 2 ^ 31 by omega), nI_clamp hii, nI_clamp (show xx < 2 ^ 31 by omega)]
    have := M_span_loop (J := J) (K := K) (i0 := nI ii) ms hv hkk hxx (S.2.1.1.getD kk []).length 0 ii .null rfl hii
    rw [show spanV S kk ii xx = spO S kk xx (fndF (begC (colS S kk)) (S.2.1.1.getD kk []).length 0 ii) from rfl, ← this]
    simp only [rX10_span_28, rX10_span_29, rX10_span_31, rX10_span_32]
    rfl
  · rw [if_pos hh]
    refine MA.bad ms (fun K => ?_)
    rw [hd, if_neg hh]
    simp only [rX10_span_21, rX10_span_22, rX10_span_24, rX10_span_27, o, true_and, mrB ok, tl_some]
theorem M_painted_in {k : Nat} {x : Int32} (ms : MS w I Q S) (hv : SV S) (hk : k < S.2.1.1.length) : ∀ n i s, n + i = (S.2.1.1.getD k []).length → (WP mX10_painted 34 [.ref 270, .int x, .int (nI s), .int (nI k), .int (nI i)] [] w (I, Q, J) K ↔ WP mX10_painted 77 [.ref 270, .int x, .int (nI (s + cntF (fun j => ((colS S k).getD j (0, 0)).1 == x) n i)), .int (nI k), .int (nI (n + i))] [] w (I, Q, J) K) := by
  obtain ⟨ok, c2, c3, c4, c5, c6, c7⟩ := id ms
  obtain ⟨o, ⟨q0, q1, q3, q4, q7, q8, q9, q10, q11⟩, w1, w2, w3, w4, w5, w6, -⟩ := id ok
  have h10 := hv.2.1.1.1
  have h30 := hv.2.1.1.2 k hk
  have hcl : ∀ i, i < (S.2.1.1.getD k []).length → I 275 (30 * k + i) = ((colS S k).getD i (0, 0)).1 := fun i hi => ((c7 k hk).1 i (by rw [show (lineP S.2.1.2.1 (S.2.1.1.getD k []) (stAt S.2.1.2.1 S.2.1.1 k)).1.length = (S.2.1.1.getD k []).length from colS_len S k]; exact hi)).1
  intro n
  induction n with
  | zero =>
    intro i s hi
    rw [rX10_painted_34]
    simp only [rX10_painted_36, rX10_painted_37, rX10_painted_40, rX10_painted_41, rX10_painted_42, rX10_painted_43, rX10_painted_44, o, q0, w1, rf_some, true_and, ixL, vin_nI (show 3 + k < 373 by omega) (by decide), nI_clamp (show 3 + k < 2 ^ 31 by omega), (c2.2.1 k hk).1]
    rw [if_pos (nI_le (show (S.2.1.1.getD k []).length ≤ i by omega) (by omega)), Nat.zero_add]
    rfl
  | succ n ih =>
    intro i s hi
    have hil : i < (S.2.1.1.getD k []).length := by omega
    rw [rX10_painted_34]
    simp only [rX10_painted_36, rX10_painted_37, rX10_painted_40, rX10_painted_41, rX10_painted_42, rX10_painted_43, rX10_painted_44, rX10_painted_47, rX10_painted_48, rX10_painted_49, rX10_painted_52, rX10_painted_54, rX10_painted_55, rX10_painted_56, rX10_painted_58, rX10_painted_59, rX10_painted_60, rX10_painted_61, rX10_painted_64, rX10_painted_65, rX10_painted_68, rX10_painted_69, rX10_painted_70, rX10_painted_71, rX10_painted_74, o, q0, q7, w1, w5, rf_some, true_and, ixL, ixC, vin_nI (show 3 + k < 373 by omega) (by decide), nI_clamp (show 3 + k < 2 ^ 31 by omega), vin_nI (show 30 * k + i < 300 by omega) (by decide), nI_clamp (show 30 * k + i < 2 ^ 31 by omega), (c2.2.1 k hk).1, hcl i hil, nI_1]
    rw [if_neg (nI_ge hil (by omega))]
    by_cases e : ((colS S k).getD i (0, 0)).1 = x
    · rw [if_neg (fun z => z e), ih (i + 1) (s + 1) (by omega), show n + (i + 1) = n + 1 + i by omega, show s + 1 + cntF (fun j => ((colS S k).getD j (0, 0)).1 == x) n (i + 1) = s + cntF (fun j => ((colS S k).getD j (0, 0)).1 == x) (n + 1) i by simp only [cntF, e, beq_self_eq_true, if_true]; omega]
    · rw [if_pos e, show nI s + 0 = nI (s + 0) from nI_add s 0, ih (i + 1) (s + 0) (by omega), show n + (i + 1) = n + 1 + i by omega, show s + 0 + cntF (fun j => ((colS S k).getD j (0, 0)).1 == x) n (i + 1) = s + cntF (fun j => ((colS S k).getD j (0, 0)).1 == x) (n + 1) i by simp only [cntF]; rw [if_neg (by simpa using e)]; omega]
theorem M_painted_loop {x : Int32} (ms : MS w I Q S) (hv : SV S) : ∀ n k s (v4 : Value), n + k = S.2.1.1.length → (WP mX10_painted 21 [.ref 270, .int x, .int (nI s), .int (nI k), v4] [] w (I, Q, J) K ↔ K (some (.int (nI (s + ptdF S x n k)))) w (I, Q, J)) := by
  obtain ⟨ok, c2, c3, c4, c5, c6, c7⟩ := id ms
  obtain ⟨o, ⟨q0, q1, q3, q4, q7, q8, q9, q10, q11⟩, w1, w2, w3, w4, w5, w6, -⟩ := id ok
  have h10 := hv.2.1.1.1
  have v0 : vin 0 373 := vin_nI (n := 0) (by decide) (by decide)
  intro n
  induction n with
  | zero =>
    intro k s v4 hk
    rw [rX10_painted_21]
    simp only [rX10_painted_22, rX10_painted_23, rX10_painted_26, rX10_painted_27, rX10_painted_28, rX10_painted_83, rX10_painted_84, o, q0, w1, rf_some, true_and, v0, cl0, c2.1.1]
    rw [if_pos (nI_le (show S.2.1.1.length ≤ k by omega) (by omega))]
    rfl
  | succ n ih =>
    intro k s v4 hk
    have hkl : k < S.2.1.1.length := by omega
    rw [rX10_painted_21]
    simp only [rX10_painted_22, rX10_painted_23, rX10_painted_26, rX10_painted_27, rX10_painted_28, rX10_painted_31, rX10_painted_32, o, q0, w1, rf_some, true_and, v0, cl0, c2.1.1]
    rw [if_neg (nI_ge hkl (by omega)), show (0 : Int32) = nI 0 from rfl, M_painted_in ms hv hkl (S.2.1.1.getD k []).length 0 s rfl]
    simp only [rX10_painted_77, rX10_painted_80, nI_1]
    rw [ih (k + 1) _ _ (by omega)]
    simp only [ptdF, Nat.add_assoc]
theorem N_painted {x : Int32} (ms : MS w I Q S) (hv : SV S) : MA w I Q J mX10_painted [.ref 270, .int x, .null, .null, .null] (.int (sp_painted x S).1) (sp_painted x S).2 := by
  obtain ⟨o, -⟩ := id ms.1
  unfold sp_painted
  by_cases hx : inR x 8
  · rw [if_neg (fun z => z hx)]
    refine MA.same ms (fun K => ?_)
    have := M_painted_loop (J := J) (K := K) (x := x) ms hv S.2.1.1.length 0 0 .null rfl
    rw [Nat.zero_add] at this
    rw [← this]
    simp only [rX10_painted_0, rX10_painted_1, rX10_painted_2, rX10_painted_4, rX10_painted_7, rX10_painted_10, rX10_painted_11, rX10_painted_13, rX10_painted_16, rX10_painted_17, rX10_painted_18, rX10_painted_19, rX10_painted_20, M_in, tl_some, ifn10, rg7]
    rw [if_pos hx]
    rfl
  · rw [if_pos hx]
    refine MA.bad ms (fun K => ?_)
    simp only [rX10_painted_0, rX10_painted_1, rX10_painted_2, rX10_painted_4, rX10_painted_7, rX10_painted_10, rX10_painted_11, rX10_painted_13, rX10_painted_16, M_in, tl_some, ifn10, rg7, o, true_and, mrB ms.1]
    rw [if_neg hx]
theorem u2_u2J {a f : Nat} {x y : Int64} : u2 (u2 J a f x) a f y = u2 J a f y := by
  funext z g
  by_cases e : z = a ∧ g = f
  · obtain ⟨rfl, rfl⟩ := e; rw [u2_same, u2_same]
  · rw [u2_ne (by omega), u2_ne (by omega), u2_ne (by omega)]
theorem M_mix {h v : Int64} (ok : mOK w Q) : WP mX10_mix 0 [.ref 270, .long v, .null] [] w (I, Q, u2 J 270 17 h) K ↔ K none w (I, Q, u2 J 270 17 (31 * h + v)) := by
  simp only [rX10_mix_0, rX10_mix_1, rX10_mix_4, rX10_mix_5, rX10_mix_8, rX10_mix_9, rX10_mix_10, rX10_mix_11, rX10_mix_14, ok.1, true_and, u2_same, u2_u2J]
theorem dm_at {k i : Nat} (ms : MS w I Q S) (hv : SV S) (hk : k < S.2.1.1.length) (hi : i < (S.2.1.1.getD k []).length) : ∀ n x (h : Int64), n + x = 3 → (WP mX10_digest 93 [.ref 270, .int (nI k), .int (nI i), .int (nI x)] [] w (I, Q, u2 J 270 17 h) K ↔ WP mX10_digest 116 [.ref 270, .int (nI k), .int (nI i), .int (nI 3)] [] w (I, Q, u2 J 270 17 (mixF (atV S k i) n x h)) K) := by
  intro n
  induction n with
  | zero =>
    intro x h hx
    have : x = 3 := by omega
    subst this
    rw [rX10_digest_93]
    simp only [rX10_digest_94, rX10_digest_95]
    rw [if_pos (by decide)]
    rfl
  | succ n ih =>
    intro x h hx
    rw [rX10_digest_93]
    simp only [rX10_digest_94, rX10_digest_95, rX10_digest_98, rX10_digest_99, rX10_digest_100, rX10_digest_101, rX10_digest_102, rX10_digest_103, ms.1.1, true_and]
    rw [if_neg (show ¬ (3 : Int32) ≤ nI x from nI_ge (show x < 3 by omega) (by decide)), M_byteTold ms hv hk hi (by omega)]
    simp only [tl_some, List.cons_append, List.nil_append, rX10_digest_106, rX10_digest_107, ms.1.1, true_and, M_mix ms.1, tl_none]
    simp only [rX10_digest_110, rX10_digest_113, nI_1]
    rw [ih (x + 1) _ (by omega)]
    rfl
theorem dm_by {k : Nat} (ms : MS w I Q S) (hv : SV S) (hk : k < S.2.1.1.length) : ∀ n i (h : Int64) (v3 : Value), n + i = (S.2.1.1.getD k []).length → ∃ v3', (WP mX10_digest 79 [.ref 270, .int (nI k), .int (nI i), v3] [] w (I, Q, u2 J 270 17 h) K ↔ WP mX10_digest 122 [.ref 270, .int (nI k), .int (nI (n + i)), v3'] [] w (I, Q, u2 J 270 17 (digB S k n i h)) K) := by
  obtain ⟨ok, c2, c3, c4, c5, c6, c7⟩ := id ms
  obtain ⟨o, ⟨q0, q1, q3, q4, q7, q8, q9, q10, q11⟩, w1, w2, w3, w4, w5, w6, -⟩ := id ok
  have h10 := hv.2.1.1.1
  have h30 := hv.2.1.1.2 k hk
  intro n
  induction n with
  | zero =>
    intro i h v3 hi
    refine ⟨v3, ?_⟩
    rw [rX10_digest_79]
    simp only [rX10_digest_80, rX10_digest_81, rX10_digest_84, rX10_digest_85, rX10_digest_86, rX10_digest_87, rX10_digest_88, o, q0, w1, rf_some, true_and, ixL, vin_nI (show 3 + k < 373 by omega) (by decide), nI_clamp (show 3 + k < 2 ^ 31 by omega), (c2.2.1 k hk).1]
    rw [if_pos (nI_le (show (S.2.1.1.getD k []).length ≤ i by omega) (by omega)), Nat.zero_add]
    rfl
  | succ n ih =>
    intro i h v3 hi
    have hil : i < (S.2.1.1.getD k []).length := by omega
    obtain ⟨v3', hh⟩ := ih (i + 1) (mixF (atV S k i) 3 0 h) (.int (nI 3)) (by omega)
    refine ⟨v3', ?_⟩
    rw [rX10_digest_79]
    simp only [rX10_digest_80, rX10_digest_81, rX10_digest_84, rX10_digest_85, rX10_digest_86, rX10_digest_87, rX10_digest_88, rX10_digest_91, rX10_digest_92, o, q0, w1, rf_some, true_and, ixL, vin_nI (show 3 + k < 373 by omega) (by decide), nI_clamp (show 3 + k < 2 ^ 31 by omega), (c2.2.1 k hk).1]
    rw [if_neg (nI_ge hil (by omega)), show (0 : Int32) = nI 0 from rfl, dm_at ms hv hk hil 3 0 h rfl]
    simp only [rX10_digest_116, rX10_digest_119, nI_1]
    rw [hh, show n + (i + 1) = n + 1 + i by omega]
    rfl
theorem dm_of {k : Nat} (ms : MS w I Q S) (hv : SV S) (hk : k < S.2.1.1.length) : ∀ n x (h : Int64) (v3 : Value), n + x = 6 → (WP mX10_digest 54 [.ref 270, .int (nI k), .int (nI x), v3] [] w (I, Q, u2 J 270 17 h) K ↔ WP mX10_digest 77 [.ref 270, .int (nI k), .int (nI 6), v3] [] w (I, Q, u2 J 270 17 (mixF (ofV S k) n x h)) K) := by
  intro n
  induction n with
  | zero =>
    intro x h v3 hx
    have : x = 6 := by omega
    subst this
    rw [rX10_digest_54]
    simp only [rX10_digest_55, rX10_digest_57]
    rw [if_pos (by decide)]
    rfl
  | succ n ih =>
    intro x h v3 hx
    rw [rX10_digest_54]
    simp only [rX10_digest_55, rX10_digest_57, rX10_digest_60, rX10_digest_61, rX10_digest_62, rX10_digest_63, rX10_digest_64, ms.1.1, true_and]
    rw [if_neg (show ¬ (6 : Int32) ≤ nI x from nI_ge (show x < 6 by omega) (by decide)), M_lineTold ms hv hk (by omega)]
    simp only [tl_some, List.cons_append, List.nil_append, rX10_digest_67, rX10_digest_68, ms.1.1, true_and, M_mix ms.1, tl_none]
    simp only [rX10_digest_71, rX10_digest_74, nI_1]
    rw [ih (x + 1) _ _ (by omega)]
    rfl
theorem dm_ln (ms : MS w I Q S) (hv : SV S) : ∀ n k (h : Int64) (v2 v3 : Value), n + k = S.2.1.1.length → (WP mX10_digest 42 [.ref 270, .int (nI k), v2, v3] [] w (I, Q, u2 J 270 17 h) K ↔ K (some (.long (digL S n k h))) w (I, Q, u2 J 270 17 (digL S n k h))) := by
  obtain ⟨ok, c2, c3, c4, c5, c6, c7⟩ := id ms
  obtain ⟨o, ⟨q0, q1, q3, q4, q7, q8, q9, q10, q11⟩, w1, w2, w3, w4, w5, w6, -⟩ := id ok
  have h10 := hv.2.1.1.1
  have v0 : vin 0 373 := vin_nI (n := 0) (by decide) (by decide)
  intro n
  induction n with
  | zero =>
    intro k h v2 v3 hk
    rw [rX10_digest_42]
    simp only [rX10_digest_43, rX10_digest_44, rX10_digest_47, rX10_digest_48, rX10_digest_49, rX10_digest_128, rX10_digest_129, rX10_digest_132, o, q0, w1, rf_some, true_and, v0, cl0, c2.1.1, u2_same]
    rw [if_pos (nI_le (show S.2.1.1.length ≤ k by omega) (by omega))]
    rfl
  | succ n ih =>
    intro k h v2 v3 hk
    have hkl : k < S.2.1.1.length := by omega
    rw [rX10_digest_42]
    simp only [rX10_digest_43, rX10_digest_44, rX10_digest_47, rX10_digest_48, rX10_digest_49, rX10_digest_52, rX10_digest_53, o, q0, w1, rf_some, true_and, v0, cl0, c2.1.1]
    rw [if_neg (nI_ge hkl (by omega)), show (0 : Int32) = nI 0 from rfl, dm_of ms hv hkl 6 0 h v3 rfl]
    simp only [rX10_digest_77, rX10_digest_78]
    obtain ⟨v3', hh⟩ := dm_by (J := J) (K := K) ms hv hkl (S.2.1.1.getD k []).length 0 (mixF (ofV S k) 6 0 h) v3 rfl
    rw [show (0 : Int32) = nI 0 from rfl, hh]
    simp only [rX10_digest_122, rX10_digest_125, nI_1]
    rw [ih (k + 1) _ _ _ (by omega)]
    rfl
theorem dm_told (ms : MS w I Q S) : ∀ n x (h : Int64) (v2 v3 : Value), n + x = 8 → (WP mX10_digest 9 [.ref 270, .int (nI x), v2, v3] [] w (I, Q, u2 J 270 17 h) K ↔ WP mX10_digest 31 [.ref 270, .int (nI 8), v2, v3] [] w (I, Q, u2 J 270 17 (mixF (toldV S) n x h)) K) := by
  intro n
  induction n with
  | zero =>
    intro x h v2 v3 hx
    have : x = 8 := by omega
    subst this
    rw [rX10_digest_9]
    simp only [rX10_digest_10, rX10_digest_12]
    rw [if_pos (by decide)]
    rfl
  | succ n ih =>
    intro x h v2 v3 hx
    rw [rX10_digest_9]
    simp only [rX10_digest_10, rX10_digest_12, rX10_digest_15, rX10_digest_16, rX10_digest_17, rX10_digest_18, ms.1.1, true_and]
    rw [if_neg (show ¬ (8 : Int32) ≤ nI x from nI_ge (show x < 8 by omega) (by decide)), M_toldOf ms (by omega)]
    simp only [tl_some, List.cons_append, List.nil_append, rX10_digest_21, rX10_digest_22, ms.1.1, true_and, M_mix ms.1, tl_none]
    simp only [rX10_digest_25, rX10_digest_28, nI_1]
    rw [ih (x + 1) _ _ _ (by omega)]
    rfl
theorem N_digest (ms : MS w I Q S) (hv : SV S) : ∃ J' : Nat → Nat → Int64, ∀ K, (WP mX10_digest 0 [.ref 270, .null, .null, .null] [] w (I, Q, J) K ↔ K (some (.long (sp_digest S))) w (I, Q, J')) := by
  refine ⟨u2 J 270 17 (sp_digest S), fun K => ?_⟩
  have h1 := dm_ln (J := J) (K := K) ms hv S.2.1.1.length 0 (31 * mixF (toldV S) 8 0 2543 + (nI S.2.2.2.1).toInt64) .null .null rfl
  simp only [rX10_digest_0, rX10_digest_1, rX10_digest_4, rX10_digest_7, rX10_digest_8, ms.1.1, true_and]
  rw [show (0 : Int32) = nI 0 from rfl, dm_told ms 8 0 2543 .null .null rfl]
  simp only [rX10_digest_31, rX10_digest_32, rX10_digest_33, rX10_digest_36, rX10_digest_37, ms.1.1, true_and, ms.2.2.2.2.2.1, M_mix ms.1, tl_none]
  simp only [rX10_digest_40, rX10_digest_41]
  exact h1
end M9
