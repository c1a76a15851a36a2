/-! ===== the reference: its cells; piles; bytes; colours ===== -/
theorem nI_mul (a b : Nat) : nI a * nI b = nI (a * b) := by
  apply Int32.toBitVec_inj.mp
  rw [Int32.toBitVec_mul, nI_bv, nI_bv, nI_bv]
  apply BitVec.eq_of_toNat_eq
  rw [BitVec.toNat_mul, BitVec.toNat_ofNat, BitVec.toNat_ofNat, BitVec.toNat_ofNat, ← Nat.mul_mod]
theorem ixB (k i : Nat) : (13 : Int32) + 30 * nI k + nI i = nI (13 + 30 * k + i) := by rw [show (13 : Int32) = nI 13 from rfl, show (30 : Int32) = nI 30 from rfl, nI_mul, nI_add, nI_add]
theorem ixC (k i : Nat) : (30 : Int32) * nI k + nI i = nI (30 * k + i) := by rw [show (30 : Int32) = nI 30 from rfl, nI_mul, nI_add]
theorem ixL (k : Nat) : (3 : Int32) + nI k = nI (3 + k) := by rw [show (3 : Int32) = nI 3 from rfl, nI_add]
theorem ixV (k : Nat) : (313 : Int32) + nI k = nI (313 + k) := by rw [show (313 : Int32) = nI 313 from rfl, nI_add]
theorem ixW (k i : Nat) : (317 : Int32) + 5 * nI k + nI i = nI (317 + 5 * k + i) := by rw [show (317 : Int32) = nI 317 from rfl, show (5 : Int32) = nI 5 from rfl, nI_mul, nI_add, nI_add]
def mOK (w : WS) (Q : Nat → Nat → Option Nat) : Prop := w.1 270 = (10, 0) ∧ (Q 270 0 = some 271 ∧ Q 270 1 = some 272 ∧ Q 270 3 = some 273 ∧ Q 270 4 = some 274 ∧ Q 270 7 = some 275 ∧ Q 270 8 = some 276 ∧ Q 270 9 = some 277 ∧ Q 270 10 = some 278 ∧ Q 270 11 = some 279) ∧ (w.1 271 = (20, 373) ∧ w.1 272 = (20, 1865) ∧ w.1 273 = (20, 3) ∧ w.1 274 = (20, 30) ∧ w.1 275 = (20, 300) ∧ w.1 276 = (20, 300) ∧ w.1 277 = (20, 10) ∧ w.1 278 = (20, 10) ∧ w.1 279 = (20, 10))
/-- a line's bytes, in an array as 'now' -/
def lnM (N : Nat → Int32) (k : Nat) (l : List Int32) : Prop := N (3 + k) = nI l.length ∧ ∀ i, i < l.length → N (13 + 30 * k + i) = l.getD i 0
def wdM (N : Nat → Int32) (k : Nat) (l : List Int32) : Prop := N (313 + k) = nI l.length ∧ ∀ i, i < l.length → N (317 + 5 * k + i) = l.getD i 0
def ruM (N : Nat → Int32) (k : Nat) (r : RU) : Prop := N (337 + 3 * k) = r.1 ∧ N (337 + 3 * k + 1) = r.2.1 ∧ N (337 + 3 * k + 2) = r.2.2
def nowIs (N : Nat → Int32) (Z : ZS) : Prop := (N 0 = nI Z.1.length ∧ N 1 = nI Z.2.1.length ∧ N 2 = nI Z.2.2.length) ∧ (∀ k, k < Z.1.length → lnM N k (Z.1.getD k [])) ∧ (∀ k, k < Z.2.1.length → wdM N k (Z.2.1.getD k [])) ∧ (∀ k, k < Z.2.2.length → ruM N k (Z.2.2.getD k (0, 0, 0)))
theorem nowIs.ext {N N' : Nat → Int32} {Z : ZS} (h : nowIs N Z) (hz : zV Z) (e : ∀ i, i < 373 → N' i = N i) : nowIs N' Z := by
  obtain ⟨⟨h1, h2, h3⟩, h4, h5, h6⟩ := h
  have z1 := hz.1.1
  have z2 := hz.2.1.1
  have z3 := hz.2.2
  refine ⟨⟨by rw [e 0 (by omega)]; exact h1, by rw [e 1 (by omega)]; exact h2, by rw [e 2 (by omega)]; exact h3⟩, fun k hk => ⟨by rw [e _ (by omega)]; exact (h4 k hk).1, fun i hi => ?_⟩, fun k hk => ⟨by rw [e _ (by omega)]; exact (h5 k hk).1, fun i hi => ?_⟩, fun k hk => ⟨by rw [e _ (by omega)]; exact (h6 k hk).1, by rw [e _ (by omega)]; exact (h6 k hk).2.1, by rw [e _ (by omega)]; exact (h6 k hk).2.2⟩⟩
  · have := hz.1.2 k hk
    rw [e _ (by omega)]; exact (h4 k hk).2 i hi
  · have := (hz.2.1.2 k hk).2
    rw [e _ (by omega)]; exact (h5 k hk).2 i hi
/-- what stands open -/
def pst (I : Nat → Nat → Int32) (P : List Nat) : Prop := I 270 12 = nI (pilN P) ∧ I 270 13 = nI P.length
/-- a line's colours and modes -/
def clIs (I : Nat → Nat → Int32) (k : Nat) (c : List (Int32 × Int32)) : Prop := ∀ j, j < c.length → I 275 (30 * k + j) = (c.getD j (0, 0)).1 ∧ I 276 (30 * k + j) = (c.getD j (0, 0)).2
/-- what painting line k writes -/
def FrM (k : Nat) (I I' : Nat → Nat → Int32) : Prop := (∀ c, c ≠ 270 → c ≠ 275 → c ≠ 276 → I' c = I c) ∧ (∀ f, (f < 12 ∨ 13 < f) → f ≠ 16 → I' 270 f = I 270 f) ∧ ∀ j, j < 30 * k → I' 275 j = I 275 j ∧ I' 276 j = I 276 j
theorem FrM.rf {k : Nat} {I : Nat → Nat → Int32} : FrM k I I := ⟨fun _ _ _ _ => rfl, fun _ _ _ => rfl, fun _ _ => ⟨rfl, rfl⟩⟩
theorem FrM.tr {k : Nat} {I I1 I2 : Nat → Nat → Int32} (h1 : FrM k I I1) (h2 : FrM k I1 I2) : FrM k I I2 := ⟨fun c q1 q2 q3 => (h2.1 c q1 q2 q3).trans (h1.1 c q1 q2 q3), fun f q1 q2 => (h2.2.1 f q1 q2).trans (h1.2.1 f q1 q2), fun j q => ⟨((h2.2.2 j q).1).trans (h1.2.2 j q).1, ((h2.2.2 j q).2).trans (h1.2.2 j q).2⟩⟩
section M1
variable {w : WS} {I : Nat → Nat → Int32} {Q : Nat → Nat → Option Nat} {J : Nat → Nat → Int64} {h : HS} {P : List Nat} {l : List Int32} {k : Nat}
theorem FrM.pile {f : Nat} {x : Int32} (hf : 12 ≤ f ∧ f ≤ 13) : FrM k I (u2 I 270 f x) := ⟨fun c q1 _ _ => Fr_u2 c q1, fun g q1 q2 => u2_ne (Or.inr (by omega)), fun j _ => ⟨u2_ne (Or.inl (by decide)), u2_ne (Or.inl (by decide))⟩⟩
theorem M_in {x a b : Int32} {K : Option Value → WS → HS → Prop} : WP mX10_in 0 [.int x, .int a, .int b] [] w h K ↔ K (some (.int (if a ≤ x ∧ x ≤ b then 1 else 0))) w h := by
  simp only [rX10_in_0, rX10_in_1, rX10_in_2, rX10_in_5, rX10_in_6, rX10_in_7, rX10_in_10, rX10_in_11, rX10_in_14, rX10_in_15]
  by_cases q : x < a
  · rw [if_pos q, if_neg (fun z => absurd z.1 (Int32.not_le.mpr q))]; simp
  · rw [if_neg q]
    by_cases q2 : b < x
    · rw [if_pos q2, if_neg (fun z => absurd z.2 (Int32.not_le.mpr q2))]; simp
    · rw [if_neg q2, if_pos ⟨Int32.not_lt.mp q, Int32.not_lt.mp q2⟩]; simp
theorem M_isLetter {x : Int32} {K : Option Value → WS → HS → Prop} : WP mX10_isLetter 0 [.int x] [] w h K ↔ K (some (.int (if isL x then 1 else 0))) w h := by
  simp only [rX10_isLetter_0, rX10_isLetter_1, rX10_isLetter_3, rX10_isLetter_5, rX10_isLetter_8, M_in, tl_some]
  by_cases q : 97 ≤ x ∧ x ≤ 122
  · rw [if_pos q]; simp
  · rw [if_neg q]; simp
theorem M_isFigure {x : Int32} {K : Option Value → WS → HS → Prop} : WP mX10_isFigure 0 [.int x] [] w h K ↔ K (some (.int (if isF x then 1 else 0))) w h := by
  simp only [rX10_isFigure_0, rX10_isFigure_1, rX10_isFigure_3, rX10_isFigure_5, rX10_isFigure_8, M_in, tl_some]
  by_cases q : 48 ≤ x ∧ x ≤ 57
  · rw [if_pos q]; simp
  · rw [if_neg q]; simp
theorem M_modeOf {x : Nat} {K : Option Value → WS → HS → Prop} (hx : x < 4) : WP mX10_modeOf 0 [.int (nI x)] [] w h K ↔ K (some (.int (mdI x))) w h := by
  simp only [rX10_modeOf_0, rX10_modeOf_1, rX10_modeOf_4, rX10_modeOf_5, rX10_modeOf_8, rX10_modeOf_9, rX10_modeOf_10, rX10_modeOf_13, rX10_modeOf_14, rX10_modeOf_17, rX10_modeOf_18]
  rcases (show x = 0 ∨ x = 1 ∨ x = 2 ∨ x = 3 by omega) with rfl | rfl | rfl | rfl
  · rw [if_neg (by decide)]; rfl
  · rw [if_pos (by decide), if_pos (by decide)]; rfl
  · rw [if_pos (by decide), if_pos (by decide)]; rfl
  · rw [if_pos (by decide), if_neg (by decide)]; rfl
/-- an entry of a pile, by its place -/
theorem pl_at {j : Nat} (hP : entV P) (hl : P.length ≤ 6) (hj : j < 6) : nI (pilN P) >>> (nI (2 * j) &&& 31) &&& 3 = nI (P.getD j 0) := by
  have h1 := pilN_lt hP
  have h2 : 4 ^ P.length ≤ 4 ^ 6 := Nat.pow_le_pow_right (by decide) hl
  have h3 : (4 : Nat) ^ 6 = 4096 := by decide
  have h4 : pilN P / 2 ^ (2 * j) ≤ pilN P := Nat.div_le_self _ _
  rw [nI_shr (by omega) (by omega), nI_and3 (by omega), Nat.pow_mul, show 2 ^ 2 = 4 by decide, pilN_get j hP]
theorem M_top {m : Nat} {K : Option Value → WS → HS → Prop} (ok : mOK w Q) (hP : stV (P, m)) (p : pst I P) : WP mX10_top 0 [.ref 270] [] w (I, Q, J) K ↔ K (some (.int (nI (topP P)))) w (I, Q, J) := by
  have h1 : 1 ≤ P.length := hP.1
  have h6 : P.length ≤ 6 := hP.2.1
  simp only [rX10_top_0, rX10_top_1, rX10_top_4, rX10_top_5, rX10_top_6, rX10_top_9, rX10_top_10, rX10_top_11, rX10_top_12, rX10_top_13, rX10_top_14, rX10_top_15, ok.1, p.1, p.2, true_and]
  rw [show nI P.length - 1 = nI (P.length - 1) from pk_sub h1, nI_mul2 (by omega), pl_at hP.2.2.1 h6 (by omega)]
  rfl
theorem M_comesOn {x : Nat} {K : Option Value → WS → HS → Prop} (ok : mOK w Q) (hP : entV P) (hl : P.length < 6) (hx : x < 4) (p : pst I P) : WP mX10_comesOn 0 [.ref 270, .int (nI x)] [] w (I, Q, J) K ↔ K (some (.int 1)) w (u2 (u2 I 270 12 (nI (pilN (P ++ [x])))) 270 13 (nI (P.length + 1)), Q, J) := by
  have h1 := pilN_lt hP
  have h4 : 4 ^ P.length * 4 ≤ 4 ^ 6 := by rw [← Nat.pow_succ]; exact Nat.pow_le_pow_right (by decide) (by omega)
  have h3 : (4 : Nat) ^ 6 = 4096 := by decide
  have e2 : 2 ^ (2 * P.length) = 4 ^ P.length := by rw [Nat.pow_mul]
  have hx2 : x * 4 ^ P.length ≤ 3 * 4 ^ P.length := Nat.mul_le_mul_right _ (by omega)
  have e13 : ∀ y, u2 I 270 12 y 270 13 = nI P.length := fun y => by rw [u2_ne (Or.inr (by decide))]; exact p.2
  have ev : nI (pilN P) ||| nI x <<< (2 * nI P.length &&& 31) = nI (pilN (P ++ [x])) := by
    rw [nI_mul2 (by omega), nI_shl (by omega) (by rw [e2]; omega), nI_porm (by rw [e2]; exact h1) (by rw [e2]; omega), e2, pilN_app]
  simp only [rX10_comesOn_0, rX10_comesOn_1, rX10_comesOn_4, rX10_comesOn_6, rX10_comesOn_9, rX10_comesOn_10, rX10_comesOn_11, rX10_comesOn_12, rX10_comesOn_13, rX10_comesOn_16, rX10_comesOn_17, rX10_comesOn_18, rX10_comesOn_19, rX10_comesOn_22, rX10_comesOn_23, rX10_comesOn_24, rX10_comesOn_25, rX10_comesOn_28, rX10_comesOn_29, rX10_comesOn_30, rX10_comesOn_33, rX10_comesOn_34, rX10_comesOn_35, rX10_comesOn_38, rX10_comesOn_39, ok.1, p.1, p.2, true_and]
  rw [if_pos (show ¬ nI P.length = 6 from fun z => by have := nI_inj (b := 6) (by omega) (by decide) z; omega), ev]
  simp only [e13, nI_1]
  simp
theorem M_goesOff {K : Option Value → WS → HS → Prop} (ok : mOK w Q) (hP : entV P) (hl : P.length ≤ 6) (h2 : 1 ≤ P.length) (p : pst I P) : WP mX10_goesOff 0 [.ref 270] [] w (I, Q, J) K ↔ K none w (u2 (u2 I 270 13 (nI (P.length - 1))) 270 12 (nI (pilN P.dropLast)), Q, J) := by
  have h1 := pilN_lt hP
  have h4 : 4 ^ P.length ≤ 4 ^ 6 := Nat.pow_le_pow_right (by decide) hl
  have h5 : 4 ^ (P.length - 1) ≤ 4 ^ 6 := Nat.pow_le_pow_right (by decide) (by omega)
  have h6 : 0 < 4 ^ (P.length - 1) := Nat.pow_pos (by decide)
  have h3 : (4 : Nat) ^ 6 = 4096 := by decide
  have e2 : 2 ^ (2 * (P.length - 1)) = 4 ^ (P.length - 1) := by rw [Nat.pow_mul]
  have e12 : ∀ y, u2 I 270 13 y 270 12 = nI (pilN P) := fun y => by rw [u2_ne (Or.inr (by decide))]; exact p.1
  have ev : nI (pilN P) &&& (1 <<< (2 * nI (P.length - 1) &&& 31) - 1) = nI (pilN P.dropLast) := by
    rw [nI_mul2 (by omega), show (1 : Int32) <<< (nI (2 * (P.length - 1)) &&& 31) = nI 1 <<< (nI (2 * (P.length - 1)) &&& 31) from rfl, nI_shl (by omega) (by rw [e2]; omega), Nat.one_mul, show nI (2 ^ (2 * (P.length - 1))) - 1 = nI (2 ^ (2 * (P.length - 1)) - 1) from pk_sub (show 1 ≤ 2 ^ (2 * (P.length - 1)) by rw [e2]; exact h6), nI_andm (by omega) (by omega), e2, List.dropLast_eq_take, pilN_take _ hP]
  simp only [rX10_goesOff_0, rX10_goesOff_1, rX10_goesOff_2, rX10_goesOff_5, rX10_goesOff_6, rX10_goesOff_7, rX10_goesOff_10, rX10_goesOff_11, rX10_goesOff_12, rX10_goesOff_15, rX10_goesOff_16, rX10_goesOff_17, rX10_goesOff_18, rX10_goesOff_21, rX10_goesOff_22, rX10_goesOff_23, rX10_goesOff_24, rX10_goesOff_25, rX10_goesOff_26, rX10_goesOff_29, ok.1, p.2, true_and, e12, u2_same, show nI P.length - 1 = nI (P.length - 1) from pk_sub h2]
  rw [ev]
theorem M_byteAt {i : Nat} {K : Option Value → WS → HS → Prop} (ok : mOK w Q) (hl : l.length ≤ 30) (hk : k < 10) (hi : i < 1000) (r : lnM (I 271) k l) (hL : I 270 15 = nI k) : WP mX10_byteAt 0 [.ref 270, .int (nI i)] [] w (I, Q, J) K ↔ K (some (.int (l.getD i 0))) w (I, Q, J) := by
  obtain ⟨o, ⟨q0, q1, q3, q4, q7, q8, q9, q10, q11⟩, w1, -⟩ := ok
  simp only [rX10_byteAt_0, rX10_byteAt_1, rX10_byteAt_2, rX10_byteAt_5, rX10_byteAt_6, rX10_byteAt_7, rX10_byteAt_10, rX10_byteAt_11, rX10_byteAt_12, rX10_byteAt_15, rX10_byteAt_16, rX10_byteAt_19, rX10_byteAt_21, rX10_byteAt_23, rX10_byteAt_24, rX10_byteAt_27, rX10_byteAt_28, rX10_byteAt_29, rX10_byteAt_30, rX10_byteAt_31, rX10_byteAt_32, rX10_byteAt_35, rX10_byteAt_36, o, q0, w1, rf_some, hL, true_and, ixL, vin_nI (show 3 + k < 373 by omega) (by decide), nI_clamp (show 3 + k < 2 ^ 31 by omega), r.1]
  by_cases h : i < l.length
  · rw [if_neg (nI_ge h (by omega))]
    simp only [ixB, vin_nI (show 13 + 30 * k + i < 373 by omega) (by decide), nI_clamp (show 13 + 30 * k + i < 2 ^ 31 by omega), r.2 i h, true_and]
  · rw [if_pos (nI_le (by omega) (by omega))]
    rw [show l.getD i 0 = 0 by rw [List.getD_eq_getElem?_getD, List.getElem?_eq_none (by omega)]; rfl]
theorem pst.fr {I' : Nat → Nat → Int32} (p : pst I P) (h1 : I' 270 12 = I 270 12) (h2 : I' 270 13 = I 270 13) : pst I' P := ⟨h1.trans p.1, h2.trans p.2⟩
/-- so many bytes get a colour -/
theorem M_colour_loop {m N : Nat} {x : Int32} (ok : mOK w Q) (hP : stV (P, m)) (hk : k < 10) : ∀ n (c : List (Int32 × Int32)) (I : Nat → Nat → Int32), n ≤ N → c.length + n ≤ 30 → pst I P → I 270 15 = nI k → I 270 16 = nI c.length → clIs I k c → N < 31 → ∃ I', pst I' P ∧ I' 270 16 = nI (c.length + n) ∧ clIs I' k (c ++ List.replicate n (x, mdI (topP P))) ∧ FrM k I I' ∧ ∀ K, (WP mX10_colour 2 [.ref 270, .int (nI N), .int x, .int (nI (N - n))] [] w (I, Q, J) K ↔ K none w (I', Q, J)) := by
  obtain ⟨o, ⟨q0, q1, q3, q4, q7, q8, q9, q10, q11⟩, w1, w2, w3, w4, w5, w6, -⟩ := id ok
  have ht := top_lt hP
  intro n
  induction n with
  | zero =>
    intro c I hn hc p hL hp cl hN
    refine ⟨I, p, hp, by simpa using cl, FrM.rf, fun K => ?_⟩
    rw [rX10_colour_2]
    simp only [rX10_colour_0, rX10_colour_1, rX10_colour_3, rX10_colour_4, rX10_colour_7, rX10_colour_8, rX10_colour_11, rX10_colour_13, rX10_colour_14, rX10_colour_17, rX10_colour_18, rX10_colour_19, rX10_colour_22, rX10_colour_23, rX10_colour_24, rX10_colour_25, rX10_colour_26, rX10_colour_29, rX10_colour_31, rX10_colour_32, rX10_colour_35, rX10_colour_36, rX10_colour_37, rX10_colour_40, rX10_colour_41, rX10_colour_42, rX10_colour_45, rX10_colour_48, rX10_colour_49, rX10_colour_50, rX10_colour_51, rX10_colour_54, rX10_colour_55, rX10_colour_56, rX10_colour_59, rX10_colour_62, rX10_colour_65]
    rw [if_pos (nI_le (by omega) (by omega))]
  | succ n ih =>
    intro c I hn hc p hL hp cl hN
    have e1 : ∀ y z, u2 (u2 I 275 (30 * k + c.length) y) 276 (30 * k + c.length) z 270 = I 270 := fun y z => by rw [Fr_u2 270 (by omega), Fr_u2 270 (by omega)]
    have hp1 : pst (u2 (u2 (u2 I 275 (30 * k + c.length) x) 276 (30 * k + c.length) (mdI (topP P))) 270 16 (nI (c.length + 1))) P := p.fr (by rw [u2_ne (Or.inr (by decide)), e1]) (by rw [u2_ne (Or.inr (by decide)), e1])
    have hcl : clIs (u2 (u2 (u2 I 275 (30 * k + c.length) x) 276 (30 * k + c.length) (mdI (topP P))) 270 16 (nI (c.length + 1))) k (c ++ [(x, mdI (topP P))]) := by
      intro j hj
      by_cases q : j < c.length
      · rw [show (c ++ [(x, mdI (topP P))]).getD j (0, 0) = c.getD j (0, 0) by simp only [List.getD_eq_getElem?_getD, List.getElem?_append_left q]]
        have := cl j q
        exact ⟨by rw [u2_ne (Or.inl (by decide)), u2_ne (Or.inl (by decide)), u2_ne (Or.inr (by omega))]; exact this.1, by rw [u2_ne (Or.inl (by decide)), u2_ne (Or.inr (by omega)), u2_ne (Or.inl (by decide))]; exact this.2⟩
      · have hj2 : j = c.length := by simp at hj; omega
        subst hj2
        rw [show (c ++ [(x, mdI (topP P))]).getD c.length (0, 0) = (x, mdI (topP P)) by simp [List.getD_eq_getElem?_getD]]
        exact ⟨by rw [u2_ne (Or.inl (by decide)), u2_ne (Or.inl (by decide)), u2_same], by rw [u2_ne (Or.inl (by decide)), u2_same]⟩
    obtain ⟨I', f1, f2, f3, f4, f5⟩ := ih (c ++ [(x, mdI (topP P))]) (u2 (u2 (u2 I 275 (30 * k + c.length) x) 276 (30 * k + c.length) (mdI (topP P))) 270 16 (nI (c.length + 1))) (by omega) (by simp; omega) hp1 (by rw [u2_ne (Or.inr (by decide)), e1]; exact hL) (by rw [u2_same]; simp) hcl hN
    refine ⟨I', f1, by rw [f2]; simp; congr 1; omega, by rw [List.append_assoc] at f3; simpa [List.replicate_succ] using f3, FrM.tr ⟨fun c0 z1 z2 z3 => by rw [Fr_u2 c0 z1, Fr_u2 c0 z3, Fr_u2 c0 z2], fun f z1 z2 => by rw [u2_ne (Or.inr z2), e1], fun j hj => ⟨by rw [u2_ne (Or.inl (by decide)), u2_ne (Or.inl (by decide)), u2_ne (Or.inr (by omega))], by rw [u2_ne (Or.inl (by decide)), u2_ne (Or.inr (by omega)), u2_ne (Or.inl (by decide))]⟩⟩ f4, fun K => ?_⟩
    rw [rX10_colour_2]
    have hpx : pst (u2 I 275 (30 * k + c.length) x) P := p.fr (by rw [u2_ne (Or.inl (by decide))]) (by rw [u2_ne (Or.inl (by decide))])
    have hlx : ∀ f, u2 I 275 (30 * k + c.length) x 270 f = I 270 f := fun f => u2_ne (Or.inl (by decide))
    have hly : ∀ f, u2 (u2 I 275 (30 * k + c.length) x) 276 (30 * k + c.length) (mdI (topP P)) 270 f = I 270 f := fun f => by rw [e1]
    simp only [rX10_colour_3, rX10_colour_4, rX10_colour_7, rX10_colour_8, rX10_colour_11, rX10_colour_13, rX10_colour_14, rX10_colour_17, rX10_colour_18, rX10_colour_19, rX10_colour_22, rX10_colour_23, rX10_colour_24, rX10_colour_25, rX10_colour_26, rX10_colour_29, rX10_colour_31, rX10_colour_32, rX10_colour_35, rX10_colour_36, rX10_colour_37, rX10_colour_40, rX10_colour_41, rX10_colour_42, o, q7, q8, w5, w6, rf_some, hL, hp, hlx, true_and, ixC, vin_nI (show 30 * k + c.length < 300 by omega) (by decide), nI_clamp (show 30 * k + c.length < 2 ^ 31 by omega), ne_eq, show ¬ (275 : Nat) = 0 by decide, show ¬ (276 : Nat) = 0 by decide, not_false_eq_true, M_top ok hP hpx, tl_some]
    rw [if_neg (nI_ge (show N - (n + 1) < N by omega) (by omega))]
    simp only [List.cons_append, List.nil_append, rX10_colour_45, M_modeOf ht, tl_some]
    simp only [List.cons_append, List.nil_append, rX10_colour_48, rX10_colour_49, rX10_colour_50, rX10_colour_51, rX10_colour_54, rX10_colour_55, rX10_colour_56, rX10_colour_59, rX10_colour_62, o, w6, true_and, vin_nI (show 30 * k + c.length < 300 by omega) (by decide), nI_clamp (show 30 * k + c.length < 2 ^ 31 by omega), ne_eq, show ¬ (276 : Nat) = 0 by decide, not_false_eq_true, hly, hp, nI_1]
    rw [show N - (n + 1) + 1 = N - n by omega]
    exact f5 K
theorem M_colour {m n : Nat} {x : Int32} {c : List (Int32 × Int32)} (ok : mOK w Q) (hP : stV (P, m)) (hk : k < 10) (hn : c.length + n ≤ 30) (p : pst I P) (hL : I 270 15 = nI k) (hp : I 270 16 = nI c.length) (cl : clIs I k c) : ∃ I', pst I' P ∧ I' 270 16 = nI (c.length + n) ∧ clIs I' k (c ++ List.replicate n (x, mdI (topP P))) ∧ FrM k I I' ∧ ∀ K, (WP mX10_colour 0 [.ref 270, .int (nI n), .int x, .null] [] w (I, Q, J) K ↔ K none w (I', Q, J)) := by
  obtain ⟨I', f1, f2, f3, f4, f5⟩ := M_colour_loop (J := J) (x := x) (N := n) ok hP hk n c I (Nat.le_refl _) hn p hL hp cl (by omega)
  refine ⟨I', f1, f2, f3, f4, fun K => ?_⟩
  rw [Nat.sub_self] at f5
  simp only [rX10_colour_0, rX10_colour_1]
  exact f5 K
end M1
