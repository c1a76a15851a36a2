/-! ===== the reference: states are kept; lines move ===== -/
section MA0
variable {w : WS} {I : Nat → Nat → Int32} {Q : Nat → Nat → Option Nat} {J : Nat → Nat → Int64} {K : Option Value → WS → HS → Prop} {S : SP}
theorem ixP (s k : Nat) : (373 : Int32) * nI s + nI k = nI (373 * s + k) := by rw [show (373 : Int32) = nI 373 from rfl, nI_mul, nI_add]
theorem M_rem_a (ok : mOK w Q) : ∀ n k (I : Nat → Nat → Int32), n + k = 1492 → ∃ I', (∀ j, k ≤ j → j < 1492 → I' 272 j = I 272 (j + 373)) ∧ (∀ j, j < k ∨ 1492 ≤ j → I' 272 j = I 272 j) ∧ (∀ c, c ≠ 272 → I' c = I c) ∧ ∀ K, (WP mX10_remembers 10 [.ref 270, .int (nI k)] [] w (I, Q, J) K ↔ WP mX10_remembers 39 [.ref 270, .int (nI 1492)] [] w (I', Q, J) K) := by
  obtain ⟨o, ⟨q0, q1, q3, q4, q7, q8, q9, q10, q11⟩, w1, w2, -⟩ := id ok
  intro n
  induction n with
  | zero =>
    intro k I hk
    have : k = 1492 := by omega
    subst this
    refine ⟨I, fun j h1 h2 => by omega, fun _ _ => rfl, fun _ _ => rfl, fun K => ?_⟩
    rw [rX10_remembers_10]
    simp only [rX10_remembers_11, rX10_remembers_14]
    rw [if_pos (by decide)]
  | succ n ih =>
    intro k I hk
    obtain ⟨I', f1, f2, f3, f4⟩ := ih (k + 1) (u2 I 272 k (I 272 (k + 373))) (by omega)
    refine ⟨I', fun j h1 h2 => ?_, fun j h => ?_, fun c hc => (f3 c hc).trans (Fr_u2 c hc), fun K => ?_⟩
    · by_cases e : j = k
      · subst e; rw [f2 j (Or.inl (by omega)), u2_same]
      · rw [f1 j (by omega) h2, u2_ne (Or.inr (by omega))]
    · rw [f2 j (by omega), u2_ne (Or.inr (by omega))]
    · rw [← f4 K, rX10_remembers_10]
      simp only [rX10_remembers_11, rX10_remembers_14, rX10_remembers_17, rX10_remembers_18, rX10_remembers_21, rX10_remembers_22, rX10_remembers_23, rX10_remembers_26, rX10_remembers_27, rX10_remembers_30, rX10_remembers_31, rX10_remembers_32, rX10_remembers_33, rX10_remembers_36, o, q1, w2, rf_some, true_and, show nI k + 373 = nI (k + 373) from nI_add k 373, vin_nI (show k < 1865 by omega) (by decide), vin_nI (show k + 373 < 1865 by omega) (by decide), nI_clamp (show k < 2 ^ 31 by omega), nI_clamp (show k + 373 < 2 ^ 31 by omega), ne_eq, show ¬ (272 : Nat) = 0 by decide, not_false_eq_true, nI_1]
      rw [if_neg (show ¬ (1492 : Int32) ≤ nI k from nI_ge (show k < 1492 by omega) (by decide))]
theorem M_rem_b {s : Nat} (ok : mOK w Q) (hs : s < 5) : ∀ n k (I : Nat → Nat → Int32), n + k = 373 → I 270 2 = nI s → ∃ I', (∀ j, k ≤ j → j < 373 → I' 272 (373 * s + j) = I 271 j) ∧ (∀ j, j < 373 * s + k ∨ 373 * s + 373 ≤ j → I' 272 j = I 272 j) ∧ (∀ c, c ≠ 272 → I' c = I c) ∧ ∀ K, (WP mX10_remembers 51 [.ref 270, .int (nI k)] [] w (I, Q, J) K ↔ WP mX10_remembers 85 [.ref 270, .int (nI 373)] [] w (I', Q, J) K) := by
  obtain ⟨o, ⟨q0, q1, q3, q4, q7, q8, q9, q10, q11⟩, w1, w2, -⟩ := id ok
  intro n
  induction n with
  | zero =>
    intro k I hk hI
    have : k = 373 := by omega
    subst this
    refine ⟨I, fun j h1 h2 => by omega, fun _ _ => rfl, fun _ _ => rfl, fun K => ?_⟩
    rw [rX10_remembers_51]
    simp only [rX10_remembers_52, rX10_remembers_55]
    rw [if_pos (by decide)]
  | succ n ih =>
    intro k I hk hI
    obtain ⟨I', f1, f2, f3, f4⟩ := ih (k + 1) (u2 I 272 (373 * s + k) (I 271 k)) (by omega) (by rw [Fr_u2 270 (by decide)]; exact hI)
    refine ⟨I', fun j h1 h2 => ?_, fun j h => ?_, fun c hc => (f3 c hc).trans (Fr_u2 c hc), fun K => ?_⟩
    · by_cases e : j = k
      · subst e; rw [f2 _ (Or.inl (by omega)), u2_same]
      · rw [f1 j (by omega) h2, Fr_u2 271 (by decide)]
    · rw [f2 j (by omega), u2_ne (Or.inr (by omega))]
    · rw [← f4 K, rX10_remembers_51]
      simp only [rX10_remembers_52, rX10_remembers_55, rX10_remembers_58, rX10_remembers_59, rX10_remembers_62, rX10_remembers_65, rX10_remembers_66, rX10_remembers_69, rX10_remembers_70, rX10_remembers_71, rX10_remembers_72, rX10_remembers_73, rX10_remembers_76, rX10_remembers_77, rX10_remembers_78, rX10_remembers_79, rX10_remembers_82, o, q0, q1, w1, w2, rf_some, true_and, hI, ixP, vin_nI (show k < 373 by omega) (by decide), vin_nI (show 373 * s + k < 1865 by omega) (by decide), nI_clamp (show k < 2 ^ 31 by omega), nI_clamp (show 373 * s + k < 2 ^ 31 by omega), ne_eq, show ¬ (272 : Nat) = 0 by decide, not_false_eq_true, nI_1]
      rw [if_neg (show ¬ (373 : Int32) ≤ nI k from nI_ge (show k < 373 by omega) (by decide))]
theorem M_rem_c (ok : mOK w Q) : ∀ n k (I : Nat → Nat → Int32), n + k = 10 → ∃ I', (∀ j, k ≤ j → j < 10 → I' 278 j = I 277 j ∧ I' 279 j = nI j) ∧ (∀ j, j < k → I' 278 j = I 278 j ∧ I' 279 j = I 279 j) ∧ (∀ c, c ≠ 278 → c ≠ 279 → I' c = I c) ∧ ∀ K, (WP mX10_remembers 97 [.ref 270, .int (nI k)] [] w (I, Q, J) K ↔ K none w (I', Q, J)) := by
  obtain ⟨o, ⟨q0, q1, q3, q4, q7, q8, q9, q10, q11⟩, w1, w2, w3, w4, w5, w6, w7, w8, w9⟩ := id ok
  intro n
  induction n with
  | zero =>
    intro k I hk
    have : k = 10 := by omega
    subst this
    refine ⟨I, fun j h1 h2 => by omega, fun _ _ => ⟨rfl, rfl⟩, fun _ _ _ => rfl, fun K => ?_⟩
    rw [rX10_remembers_97]
    simp only [rX10_remembers_98, rX10_remembers_100, rX10_remembers_128]
    rw [if_pos (by decide)]
  | succ n ih =>
    intro k I hk
    obtain ⟨I', f1, f2, f3, f4⟩ := ih (k + 1) (u2 (u2 I 278 k (I 277 k)) 279 k (nI k)) (by omega)
    have e277 : u2 (u2 I 278 k (I 277 k)) 279 k (nI k) 277 = I 277 := by rw [Fr_u2 277 (by decide), Fr_u2 277 (by decide)]
    refine ⟨I', fun j h1 h2 => ?_, fun j h => ?_, fun c hc hc2 => by rw [f3 c hc hc2, Fr_u2 c hc2, Fr_u2 c hc], fun K => ?_⟩
    · by_cases e : j = k
      · subst e
        have := f2 j (by omega)
        exact ⟨by rw [this.1, u2_ne (Or.inl (by decide)), u2_same], by rw [this.2, u2_same]⟩
      · have := f1 j (by omega) h2
        rw [e277] at this
        exact this
    · have := f2 j (by omega)
      exact ⟨by rw [this.1, u2_ne (Or.inl (by decide)), u2_ne (Or.inr (by omega))], by rw [this.2, u2_ne (Or.inr (by omega)), u2_ne (Or.inl (by decide))]⟩
    · rw [← f4 K, rX10_remembers_97]
      simp only [rX10_remembers_98, rX10_remembers_100, rX10_remembers_103, rX10_remembers_104, rX10_remembers_107, rX10_remembers_108, rX10_remembers_109, rX10_remembers_112, rX10_remembers_113, rX10_remembers_114, rX10_remembers_115, rX10_remembers_116, rX10_remembers_119, rX10_remembers_120, rX10_remembers_121, rX10_remembers_122, rX10_remembers_125, o, q9, q10, q11, w7, w8, w9, rf_some, true_and, vin_nI (show k < 10 by omega) (by decide), nI_clamp (show k < 2 ^ 31 by omega), ne_eq, show ¬ (278 : Nat) = 0 by decide, show ¬ (279 : Nat) = 0 by decide, not_false_eq_true, nI_1]
      rw [if_neg (show ¬ (10 : Int32) ≤ nI k from nI_ge (show k < 10 by omega) (by decide))]
theorem M_remembers (ms : MS w I Q S) (hv : SV S) : ∃ I1, pastIs I1 ((S.2.1 :: S.2.2.1).take 5) ∧ (∀ c, c ≠ 270 → c ≠ 272 → c ≠ 278 → c ≠ 279 → I1 c = I c) ∧ (∀ f, f ≠ 2 → I1 270 f = I 270 f) ∧ (∀ j, j < 10 → I1 278 j = I 277 j ∧ I1 279 j = nI j) ∧ ∀ K, (WP mX10_remembers 0 [.ref 270, .null] [] w (I, Q, J) K ↔ K none w (I1, Q, J)) := by
  obtain ⟨ok, c2, c3, c4, c5, c6, c7⟩ := id ms
  have o := ok.1
  have hH := hv.2.2.1
  have h5 := hH.1
  -- room for one more
  have room : ∃ I0 s, s < 5 ∧ I0 270 2 = nI s ∧ (∀ f, f ≠ 2 → I0 270 f = I 270 f) ∧ (∀ c, c ≠ 270 → c ≠ 272 → I0 c = I c) ∧ s = min S.2.2.1.length 4 ∧ (∀ d, d < s → nowIs (fun i => I0 272 (373 * (s - 1 - d) + i)) (S.2.2.1.getD d ([], [], []))) ∧ ∀ K, (WP mX10_remembers 0 [.ref 270, .null] [] w (I, Q, J) K ↔ WP mX10_remembers 51 [.ref 270, .int (nI 0)] [] w (I0, Q, J) K) := by
    by_cases hf : S.2.2.1.length = 5
    · obtain ⟨I0, f1, f2, f3, f4⟩ := M_rem_a (J := J) ok 1492 0 I rfl
      have h2 : I0 270 2 = nI 5 := by rw [f3 270 (by decide), c3.1, hf]
      refine ⟨u2 I0 270 2 (nI 4), 4, by decide, u2_same, fun f hf2 => by rw [u2_ne (Or.inr hf2), f3 270 (by decide)], fun c z1 z2 => by rw [Fr_u2 c z1, f3 c z2], by omega, fun d hd => ?_, fun K => ?_⟩
      · have := c3.2 d (by omega)
        refine this.ext (hH.2 d (by omega)) (fun i hi => ?_)
        rw [Fr_u2 272 (by decide), f1 _ (by omega) (by omega), hf]
        congr 1; omega
      · simp only [rX10_remembers_0, rX10_remembers_1, rX10_remembers_4, rX10_remembers_5, rX10_remembers_8, rX10_remembers_9, o, c3.1, hf, true_and]
        rw [if_neg (show ¬ ¬ nI 5 = 5 from fun z => z rfl), show (0 : Int32) = nI 0 from rfl, f4 K]
        simp only [rX10_remembers_39, rX10_remembers_40, rX10_remembers_41, rX10_remembers_44, rX10_remembers_45, rX10_remembers_46, rX10_remembers_49, rX10_remembers_50, o, h2, true_and]
        rfl
    · refine ⟨I, S.2.2.1.length, by omega, c3.1, fun _ _ => rfl, fun _ _ _ => rfl, by omega, c3.2, fun K => ?_⟩
      simp only [rX10_remembers_0, rX10_remembers_1, rX10_remembers_4, rX10_remembers_5, rX10_remembers_49, rX10_remembers_50, o, c3.1, true_and]
      rw [if_pos (show ¬ nI S.2.2.1.length = 5 from fun z => hf (nI_inj (b := 5) (by omega) (by decide) z))]
      rfl
  obtain ⟨I0, s, hs5, hs, g1, g2, hsm, g3, g4⟩ := room
  obtain ⟨Ib, b1, b2, b3, b4⟩ := M_rem_b (J := J) ok hs5 373 0 I0 rfl hs
  obtain ⟨Ic, d1, d2, d3, d4⟩ := M_rem_c (J := J) ok 10 0 (u2 Ib 270 2 (nI (s + 1))) rfl
  have hb2 : Ib 270 2 = nI s := by rw [b3 270 (by decide)]; exact hs
  have e272 : Ic 272 = Ib 272 := by rw [d3 272 (by decide) (by decide), Fr_u2 272 (by decide)]
  have e277 : u2 Ib 270 2 (nI (s + 1)) 277 = I 277 := by rw [Fr_u2 277 (by decide), b3 277 (by decide), g2 277 (by decide) (by decide)]
  have hlen : ((S.2.1 :: S.2.2.1).take 5).length = s + 1 := by simp; omega
  refine ⟨Ic, ⟨?_, fun d hd => ?_⟩, fun c z1 z2 z3 z4 => ?_, fun f hf => ?_, fun j hj => ?_, fun K => ?_⟩
  · rw [d3 270 (by decide) (by decide), u2_same, hlen]
  · rw [hlen] at hd ⊢
    rw [e272]
    have hget : ((S.2.1 :: S.2.2.1).take 5).getD d ([], [], []) = (S.2.1 :: S.2.2.1).getD d ([], [], []) := by simp only [List.getD_eq_getElem?_getD, List.getElem?_take, show d < 5 by omega, if_true]
    rw [hget]
    match d, hd with
    | 0, _ =>
      refine c2.ext hv.2.1 (fun i hi => ?_)
      show Ib 272 (373 * (s + 1 - 1 - 0) + i) = I 271 i
      rw [show s + 1 - 1 - 0 = s by omega, b1 i (Nat.zero_le _) hi, g2 271 (by decide) (by decide)]
    | d + 1, hd =>
      refine (g3 d (by omega)).ext (hH.2 d (by omega)) (fun i hi => ?_)
      show Ib 272 (373 * (s + 1 - 1 - (d + 1)) + i) = I0 272 (373 * (s - 1 - d) + i)
      rw [show s + 1 - 1 - (d + 1) = s - 1 - d by omega]
      exact b2 _ (Or.inl (by omega))
  · rw [d3 c z3 z4, Fr_u2 c z1, b3 c z2, g2 c z1 z2]
  · rw [d3 270 (by decide) (by decide), u2_ne (Or.inr hf), b3 270 (by decide), g1 f hf]
  · have := d1 j (Nat.zero_le _) hj
    rw [e277] at this
    exact this
  · rw [g4 K, b4 K]
    simp only [rX10_remembers_85, rX10_remembers_86, rX10_remembers_87, rX10_remembers_90, rX10_remembers_91, rX10_remembers_92, rX10_remembers_95, rX10_remembers_96, o, hb2, true_and, nI_1]
    exact d4 K
/-- a change's end -/
theorem N_ch {Z : ZS} {first last : Nat} {nw : Nat → Bool} {E : Nat → List Nat × Nat} {I1 I2 : Nat → Nat → Int32} (ms : MS w I Q S) (hp : pastIs I1 ((S.2.1 :: S.2.2.1).take 5)) (h1 : ∀ c, c ≠ 270 → c ≠ 272 → c ≠ 278 → c ≠ 279 → I1 c = I c) (h1f : ∀ f, f ≠ 2 → I1 270 f = I 270 f) (h2 : ∀ c, c ≠ 271 → c ≠ 279 → I2 c = I1 c) (hZ : zV Z) (hnow : nowIs (I2 271) Z) (hla : last ≤ 10) (hfi : first ≤ Z.1.length) (hE : ∀ j, stV (E j)) (hw : ∀ j, first ≤ j → j < Z.1.length → wasM I2 nw E j) {an : Nat} (han : an = anewN Z.2.1 Z.1 nw E first last) : ∃ I3, MS w I3 Q (chS S Z an) ∧ Fr (fun c => 270 ≤ c ∧ c < 280) I I3 ∧ I3 271 = I2 271 ∧ ∀ K, (WP mX10_changes 0 [.ref 270, .int (nI first), .int (nI last), .null, .null] [] w (I2, Q, J) K ↔ K none w (I3, Q, J)) := by
  subst han
  obtain ⟨ok, c2, c3, c4, c5, c6, c7⟩ := id ms
  obtain ⟨ls, W, R⟩ := Z
  obtain ⟨I3, f1, f2, f3, f4⟩ := M_changes (J := J) ok hZ hla hfi hE hnow hw
  have e : ∀ c, c ≠ 270 → c ≠ 271 → c ≠ 275 → c ≠ 276 → c ≠ 277 → c ≠ 279 → I3 c = I1 c := fun c z1 z2 z3 z4 z5 z6 => (f3.1 c z1 z3 z4 z5).trans (h2 c z2 z6)
  have ef : ∀ f, f < 12 ∨ 16 < f → f ≠ 6 → I3 270 f = I1 270 f := fun f z1 z2 => (f3.2 f z1 z2).trans (by rw [h2 270 (by decide) (by decide)])
  have e271 : I3 271 = I2 271 := f3.1 271 (by decide) (by decide) (by decide) (by decide)
  refine ⟨I3, ⟨ok, by rw [e271]; exact hnow, ⟨by rw [ef 2 (by omega) (by omega)]; exact hp.1, by rw [e 272 (by decide) (by decide) (by decide) (by decide) (by decide) (by decide)]; exact hp.2⟩, ?_, ⟨?_, ?_⟩, f2, f1⟩, fun c hc => ?_, e271, f4⟩
  · rw [e 273 (by decide) (by decide) (by decide) (by decide) (by decide) (by decide), h1 273 (by decide) (by decide) (by decide) (by decide)]; exact c4
  · rw [ef 5 (by omega) (by omega), h1f 5 (by decide)]; exact c5.1
  · rw [e 274 (by decide) (by decide) (by decide) (by decide) (by decide) (by decide), h1 274 (by decide) (by decide) (by decide) (by decide)]; exact c5.2
  · rw [e c (by omega) (by omega) (by omega) (by omega) (by omega) (by omega), h1 c (by omega) (by omega) (by omega) (by omega)]
/-- a line's cells as another's -/
def lnE (N : Nat → Int32) (j : Nat) (N' : Nat → Int32) (j' : Nat) : Prop := N (3 + j) = N' (3 + j') ∧ ∀ i, i < 30 → N (13 + 30 * j + i) = N' (13 + 30 * j' + i)
theorem lnE.ln {N N' : Nat → Int32} {j j' : Nat} {l : List Int32} (h : lnE N j N' j') (r : lnM N' j' l) (hl : l.length ≤ 30) : lnM N j l := ⟨h.1.trans r.1, fun i hi => (h.2 i (by omega)).trans (r.2 i hi)⟩
/-- of 'now', all but line j -/
def FrN (j : Nat) (N N' : Nat → Int32) : Prop := ∀ z, z ≠ 3 + j → (z < 13 + 30 * j ∨ 43 + 30 * j ≤ z) → N' z = N z
theorem FrN.ln {j k : Nat} {N N' : Nat → Int32} (h : FrN j N N') (hk : k < 10) (hj : j < 10) (hjk : k ≠ j) : lnE N' k N k := ⟨h _ (by omega) (by omega), fun i hi => h _ (by omega) (by omega)⟩
theorem M_text_loop {k : Nat} {T : List Int32} (ok : mOK w Q) (hk : k < 10) (hT : T.length ≤ 30) : ∀ n i (I : Nat → Nat → Int32), n + i = 30 → txIs I T → ∃ I', (∀ j, i ≤ j → j < T.length → I' 271 (13 + 30 * k + j) = T.getD j 0) ∧ (∀ z, z < 13 + 30 * k + i ∨ 43 + 30 * k ≤ z → I' 271 z = I 271 z) ∧ (∀ c, c ≠ 271 → I' c = I c) ∧ ∀ K, (WP mX10_takesText 14 [.ref 270, .int (nI k), .int (nI i)] [] w (I, Q, J) K ↔ K none w (I', Q, J)) := by
  obtain ⟨o, ⟨q0, q1, q3, q4, q7, q8, q9, q10, q11⟩, w1, w2, w3, w4, -⟩ := id ok
  intro n
  induction n with
  | zero =>
    intro i I hi tx
    have : i = 30 := by omega
    subst this
    refine ⟨I, fun j h1 h2 => by omega, fun _ _ => rfl, fun _ _ => rfl, fun K => ?_⟩
    rw [rX10_takesText_14]
    simp only [rX10_takesText_15, rX10_takesText_17, rX10_takesText_58]
    rw [if_pos (by decide)]
  | succ n ih =>
    intro i I hi tx
    obtain ⟨I', f1, f2, f3, f4⟩ := ih (i + 1) (u2 I 271 (13 + 30 * k + i) (if i < T.length then T.getD i 0 else 0)) (by omega) ⟨by rw [Fr_u2 270 (by decide)]; exact tx.1, by rw [Fr_u2 274 (by decide)]; exact tx.2⟩
    refine ⟨I', fun j h1 h2 => ?_, fun z hz => ?_, fun c hc => (f3 c hc).trans (Fr_u2 c hc), fun K => ?_⟩
    · by_cases e : j = i
      · subst e; rw [f2 _ (Or.inl (by omega)), u2_same, if_pos h2]
      · exact f1 j (by omega) h2
    · rw [f2 z (by omega), u2_ne (Or.inr (by omega))]
    · rw [← f4 K, rX10_takesText_14]
      simp only [rX10_takesText_15, rX10_takesText_17, rX10_takesText_20, rX10_takesText_21, rX10_takesText_24, rX10_takesText_26, rX10_takesText_28, rX10_takesText_29, rX10_takesText_30, rX10_takesText_31, rX10_takesText_32, rX10_takesText_33, rX10_takesText_34, rX10_takesText_35, rX10_takesText_38, o, q0, rf_some, true_and, ixB, tx.1]
      rw [if_neg (show ¬ (30 : Int32) ≤ nI i from nI_ge (show i < 30 by omega) (by decide))]
      by_cases e : i < T.length
      · rw [if_neg (nI_ge e (by omega)), if_pos e]
        simp only [rX10_takesText_41, rX10_takesText_42, rX10_takesText_45, rX10_takesText_46, rX10_takesText_47, rX10_takesText_50, rX10_takesText_51, rX10_takesText_52, rX10_takesText_55, o, q4, w1, w4, rf_some, true_and, vin_nI (show i < 30 by omega) (by decide), nI_clamp (show i < 2 ^ 31 by omega), vin_nI (show 13 + 30 * k + i < 373 by omega) (by decide), nI_clamp (show 13 + 30 * k + i < 2 ^ 31 by omega), ne_eq, show ¬ (271 : Nat) = 0 by decide, not_false_eq_true, tx.2 i e, nI_1]
      · rw [if_pos (nI_le (by omega) (by omega)), if_neg e]
        simp only [rX10_takesText_50, rX10_takesText_51, rX10_takesText_52, rX10_takesText_55, w1, true_and, vin_nI (show 13 + 30 * k + i < 373 by omega) (by decide), nI_clamp (show 13 + 30 * k + i < 2 ^ 31 by omega), ne_eq, show ¬ (271 : Nat) = 0 by decide, not_false_eq_true, nI_1]
theorem M_text {k : Nat} {T : List Int32} (ok : mOK w Q) (hk : k < 10) (hT : T.length ≤ 30) (tx : txIs I T) : ∃ I', lnM (I' 271) k T ∧ FrN k (I 271) (I' 271) ∧ (∀ c, c ≠ 271 → I' c = I c) ∧ ∀ K, (WP mX10_takesText 0 [.ref 270, .int (nI k), .null] [] w (I, Q, J) K ↔ K none w (I', Q, J)) := by
  obtain ⟨o, ⟨q0, q1, q3, q4, q7, q8, q9, q10, q11⟩, w1, w2, w3, w4, -⟩ := id ok
  obtain ⟨I', f1, f2, f3, f4⟩ := M_text_loop (J := J) ok hk hT 30 0 (u2 I 271 (3 + k) (nI T.length)) rfl ⟨by rw [Fr_u2 270 (by decide)]; exact tx.1, by rw [Fr_u2 274 (by decide)]; exact tx.2⟩
  refine ⟨I', ⟨by rw [f2 _ (Or.inl (by omega)), u2_same], fun i hi => f1 i (Nat.zero_le _) hi⟩, fun z h1 h2 => by rw [f2 z (by omega), u2_ne (Or.inr h1)], fun c hc => (f3 c hc).trans (Fr_u2 c hc), fun K => ?_⟩
  simp only [rX10_takesText_0, rX10_takesText_1, rX10_takesText_4, rX10_takesText_5, rX10_takesText_6, rX10_takesText_7, rX10_takesText_8, rX10_takesText_11, rX10_takesText_12, rX10_takesText_13, o, q0, w1, rf_some, true_and, ixL, vin_nI (show 3 + k < 373 by omega) (by decide), nI_clamp (show 3 + k < 2 ^ 31 by omega), ne_eq, show ¬ (271 : Nat) = 0 by decide, not_false_eq_true, tx.1]
  exact f4 K
theorem M_moves_loop {a b : Nat} (ok : mOK w Q) (ha : a < 10) (hb : b < 10) (hab : a ≠ b) : ∀ n i (I : Nat → Nat → Int32), n + i = 30 → ∃ I', (∀ j, i ≤ j → j < 30 → I' 271 (13 + 30 * b + j) = I 271 (13 + 30 * a + j)) ∧ (∀ z, z < 13 + 30 * b + i ∨ 43 + 30 * b ≤ z → I' 271 z = I 271 z) ∧ (∀ c, c ≠ 271 → I' c = I c) ∧ ∀ K, (WP mX10_moves 18 [.ref 270, .int (nI a), .int (nI b), .int (nI i)] [] w (I, Q, J) K ↔ WP mX10_moves 58 [.ref 270, .int (nI a), .int (nI b), .int (nI 30)] [] w (I', Q, J) K) := by
  obtain ⟨o, ⟨q0, q1, q3, q4, q7, q8, q9, q10, q11⟩, w1, w2, w3, w4, -⟩ := id ok
  intro n
  induction n with
  | zero =>
    intro i I hi
    have : i = 30 := by omega
    subst this
    refine ⟨I, fun j h1 h2 => by omega, fun _ _ => rfl, fun _ _ => rfl, fun K => ?_⟩
    rw [rX10_moves_18]
    simp only [rX10_moves_19, rX10_moves_21]
    rw [if_pos (by decide)]
  | succ n ih =>
    intro i I hi
    obtain ⟨I', f1, f2, f3, f4⟩ := ih (i + 1) (u2 I 271 (13 + 30 * b + i) (I 271 (13 + 30 * a + i))) (by omega)
    refine ⟨I', fun j h1 h2 => ?_, fun z hz => ?_, fun c hc => (f3 c hc).trans (Fr_u2 c hc), fun K => ?_⟩
    · by_cases e : j = i
      · subst e; rw [f2 _ (Or.inl (by omega)), u2_same]
      · rw [f1 j (by omega) h2, u2_ne (Or.inr (by omega))]
    · rw [f2 z (by omega), u2_ne (Or.inr (by omega))]
    · rw [← f4 K, rX10_moves_18]
      simp only [rX10_moves_19, rX10_moves_21, rX10_moves_24, rX10_moves_25, rX10_moves_28, rX10_moves_30, rX10_moves_32, rX10_moves_33, rX10_moves_34, rX10_moves_35, rX10_moves_36, rX10_moves_37, rX10_moves_38, rX10_moves_41, rX10_moves_43, rX10_moves_45, rX10_moves_46, rX10_moves_47, rX10_moves_48, rX10_moves_49, rX10_moves_50, rX10_moves_51, rX10_moves_52, rX10_moves_55, o, q0, w1, rf_some, true_and, ixB, vin_nI (show 13 + 30 * a + i < 373 by omega) (by decide), nI_clamp (show 13 + 30 * a + i < 2 ^ 31 by omega), vin_nI (show 13 + 30 * b + i < 373 by omega) (by decide), nI_clamp (show 13 + 30 * b + i < 2 ^ 31 by omega), ne_eq, show ¬ (271 : Nat) = 0 by decide, not_false_eq_true, nI_1]
      rw [if_neg (show ¬ (30 : Int32) ≤ nI i from nI_ge (show i < 30 by omega) (by decide))]
theorem M_moves {a b : Nat} (ok : mOK w Q) (ha : a < 10) (hb : b < 10) (hab : a ≠ b) : ∃ I', lnE (I' 271) b (I 271) a ∧ FrN b (I 271) (I' 271) ∧ I' 279 b = I 279 a ∧ (∀ j, j ≠ b → I' 279 j = I 279 j) ∧ (∀ c, c ≠ 271 → c ≠ 279 → I' c = I c) ∧ ∀ K, (WP mX10_moves 0 [.ref 270, .int (nI a), .int (nI b), .null] [] w (I, Q, J) K ↔ K none w (I', Q, J)) := by
  obtain ⟨o, ⟨q0, q1, q3, q4, q7, q8, q9, q10, q11⟩, w1, w2, w3, w4, w5, w6, w7, w8, w9⟩ := id ok
  obtain ⟨I', f1, f2, f3, f4⟩ := M_moves_loop (J := J) ok ha hb hab 30 0 (u2 I 271 (3 + b) (I 271 (3 + a))) rfl
  have e279 : I' 279 = I 279 := by rw [f3 279 (by decide), Fr_u2 279 (by decide)]
  refine ⟨u2 I' 279 b (I 279 a), ⟨?_, fun i hi => ?_⟩, fun z h1 h2 => ?_, u2_same, fun j hj => by rw [u2_ne (Or.inr hj), e279], fun c z1 z2 => by rw [Fr_u2 c z2, f3 c z1, Fr_u2 c z1], fun K => ?_⟩
  · rw [Fr_u2 271 (by decide), f2 _ (Or.inl (by omega)), u2_same]
  · rw [Fr_u2 271 (by decide), f1 i (Nat.zero_le _) hi, u2_ne (Or.inr (by omega))]
  · rw [Fr_u2 271 (by decide), f2 z (by omega), u2_ne (Or.inr h1)]
  · simp only [rX10_moves_0, rX10_moves_1, rX10_moves_4, rX10_moves_5, rX10_moves_6, rX10_moves_7, rX10_moves_8, rX10_moves_11, rX10_moves_12, rX10_moves_13, rX10_moves_14, rX10_moves_15, rX10_moves_16, rX10_moves_17, o, q0, w1, rf_some, true_and, ixL, vin_nI (show 3 + a < 373 by omega) (by decide), nI_clamp (show 3 + a < 2 ^ 31 by omega), vin_nI (show 3 + b < 373 by omega) (by decide), nI_clamp (show 3 + b < 2 ^ 31 by omega), ne_eq, show ¬ (271 : Nat) = 0 by decide, not_false_eq_true]
    rw [show (0 : Int32) = nI 0 from rfl, f4]
    simp only [rX10_moves_58, rX10_moves_59, rX10_moves_62, rX10_moves_63, rX10_moves_64, rX10_moves_67, rX10_moves_68, rX10_moves_69, rX10_moves_70, o, q11, w9, rf_some, true_and, vin_nI ha (show 10 < 2 ^ 31 by decide), nI_clamp (show a < 2 ^ 31 by omega), vin_nI hb (show 10 < 2 ^ 31 by decide), nI_clamp (show b < 2 ^ 31 by omega), ne_eq, show ¬ (279 : Nat) = 0 by decide, not_false_eq_true, e279]
end MA0
