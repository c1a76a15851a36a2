/-! ===== the page ===== -/
theorem rowOK.q {w : WS} {Q Q' : Nat → Nat → Option Nat} {a s N : Nat} (h : rowOK w Q a s N) (e : Q' a = Q a) : rowOK w Q' a s N := ⟨h.1, by rw [e]; exact h.2.1, h.2.2⟩
theorem stOK.q {w : WS} {Q Q' : Nat → Nat → Option Nat} {a p : Nat} (h : stOK w Q a p) (e : Q' a = Q a) : stOK w Q' a p := ⟨h.1, by rw [e]; exact h.2.1, h.2.2⟩
theorem lnOK.q {w : WS} {Q Q' : Nat → Nat → Option Nat} {b : Nat} (h : lnOK w Q b) (e : ∀ c, b ≤ c → c < b + 7 → Q' c = Q c) : lnOK w Q' b := by
  obtain ⟨o1, o2, o3, o4, o5, o6, o7, o8, o9⟩ := h
  have e0 := e b (by omega) (by omega)
  exact ⟨o1, by rw [e0]; exact o2, by rw [e0]; exact o3, by rw [e0]; exact o4, by rw [e0]; exact o5, o6.q (e _ (by omega) (by omega)), o7, o8, o9.q (e _ (by omega) (by omega))⟩
theorem wdOK.q {w : WS} {Q Q' : Nat → Nat → Option Nat} {a q r0 : Nat} (h : wdOK w Q a q r0) (ea : Q' a = Q a) (eq : Q' q = Q q) (er : ∀ c, r0 ≤ c → c < r0 + 8 → Q' c = Q c) : wdOK w Q' a q r0 := by
  obtain ⟨o1, o2, o3, o4, o5, o6⟩ := h
  exact ⟨o1, by rw [ea]; exact o2, o3, fun k hk => ⟨by rw [eq]; exact (o4 k hk).1, (o4 k hk).2.q (er _ (by omega) (by omega))⟩, o5, o6⟩
theorem rlOK.q {w : WS} {Q Q' : Nat → Nat → Option Nat} {a s t : Nat} (h : rlOK w Q a s t) (e : Q' a = Q a) : rlOK w Q' a s t := ⟨h.1, by rw [e]; exact h.2.1, by rw [e]; exact h.2.2.1, h.2.2.2⟩
/-- what is kept at a: rows, words, rules -/
def kpOK (w : WS) (Q : Nat → Nat → Option Nat) (a : Nat) : Prop := w.1 a = (1, 0) ∧ Q a 0 = some (a + 1) ∧ Q a 1 = some (a + 22) ∧ Q a 2 = some (a + 32) ∧ w.1 (a + 1) = (22, 10) ∧ (∀ k, k < 10 → Q (a + 1) k = some (a + 2 + 2 * k) ∧ rowOK w Q (a + 2 + 2 * k) (a + 3 + 2 * k) 30) ∧ wdOK w Q (a + 22) (a + 23) (a + 24) ∧ rlOK w Q (a + 32) (a + 33) (a + 34)
theorem kpOK.q {w : WS} {Q Q' : Nat → Nat → Option Nat} {a : Nat} (h : kpOK w Q a) (e : ∀ c, a ≤ c → c < a + 35 → Q' c = Q c) : kpOK w Q' a := by
  obtain ⟨o1, o2, o3, o4, o5, o6, o7, o8⟩ := h
  have e0 := e a (by omega) (by omega)
  have e1 := e (a + 1) (by omega) (by omega)
  exact ⟨o1, by rw [e0]; exact o2, by rw [e0]; exact o3, by rw [e0]; exact o4, o5, fun k hk => ⟨by rw [e1]; exact (o6 k hk).1, (o6 k hk).2.q (e _ (by omega) (by omega))⟩, o7.q (e _ (by omega) (by omega)) (e _ (by omega) (by omega)) (fun c h1 h2 => e c (by omega) (by omega)), o8.q (e _ (by omega) (by omega))⟩
/-- the class's cells -/
def gOK (w : WS) (Q : Nat → Nat → Option Nat) : Prop := (w.1 1 = (9, 0) ∧ Q 1 0 = some 2 ∧ Q 1 1 = some 4 ∧ Q 1 2 = some 92 ∧ Q 1 3 = some 269) ∧ rowOK w Q 2 3 30 ∧ (w.1 4 = (3, 0) ∧ Q 4 0 = some 5 ∧ Q 4 1 = some 76 ∧ Q 4 2 = some 86 ∧ Q 4 3 = some 89 ∧ w.1 5 = (21, 10)) ∧ (∀ p, p < 10 → lnOK w Q (6 + 7 * p)) ∧ pnOK w Q ∧ rlOK w Q 86 87 88 ∧ (w.1 92 = (0, 0) ∧ Q 92 0 = some 93 ∧ w.1 93 = (23, 5) ∧ ∀ i, i < 5 → Q 93 i = some (94 + 35 * i) ∧ kpOK w Q (94 + 35 * i)) ∧ w.1 269 = (20, 3)
theorem gOK.q {w : WS} {Q Q' : Nat → Nat → Option Nat} (h : gOK w Q) (e : ∀ c, c ≠ 5 → Q' c = Q c) : gOK w Q' := by
  obtain ⟨⟨a1, a2, a3, a4, a5⟩, b1, ⟨c1, c2, c3, c4, c5, c6⟩, d1, ⟨p1, p3, p4, p5⟩, r1, ⟨h1, h2, h3, h4⟩, z⟩ := h
  refine ⟨⟨a1, by rw [e 1 (by decide)]; exact a2, by rw [e 1 (by decide)]; exact a3, by rw [e 1 (by decide)]; exact a4, by rw [e 1 (by decide)]; exact a5⟩, b1.q (e 2 (by decide)), ⟨c1, by rw [e 4 (by decide)]; exact c2, by rw [e 4 (by decide)]; exact c3, by rw [e 4 (by decide)]; exact c4, by rw [e 4 (by decide)]; exact c5, c6⟩, fun p hp => (d1 p hp).q (fun c _ _ => e c (by omega)), ⟨p1, by rw [e 89 (by decide)]; exact p3, p4.q (e 90 (by decide)), p5.q (e 76 (by decide)) (e 77 (by decide)) (fun c _ _ => e c (by omega))⟩, r1.q (e 86 (by decide)), ⟨h1, by rw [e 92 (by decide)]; exact h2, h3, fun i hi => ⟨by rw [e 93 (by decide)]; exact (h4 i hi).1, (h4 i hi).2.q (fun c _ _ => e c (by omega))⟩⟩, z⟩
/-- the lines' order: place k is held by line π k -/
def piOK (Q : Nat → Nat → Option Nat) (π : Nat → Nat) : Prop := (∀ k, k < 10 → Q 5 k = some (6 + 7 * π k) ∧ π k < 10) ∧ ∀ i j, i < 10 → j < 10 → π i = π j → i = j
abbrev inR (k : Int32) (n : Nat) : Prop := ¬ k < 0 ∧ ¬ nI n ≤ k
theorem inR_of {k : Int32} {n : Nat} (hn : n < 2 ^ 31) (h : inR k n) : ∃ j, j < n ∧ k = nI j := by
  rcases pk_ix k hn with q | q | q
  · exact absurd q h.1
  · exact absurd q h.2
  · exact q
theorem inR_lt {j n : Nat} (h : j < n) (hn : n < 2 ^ 31) : inR (nI j) n := ⟨nI_pos (by omega), nI_ge h hn⟩
section PG
variable {w : WS} {I : Nat → Nat → Int32} {Q : Nat → Nat → Option Nat} {J : Nat → Nat → Int64} {K : Option Value → WS → HS → Prop} {π : Nat → Nat} {ls : List (List Int32)} {W : List (List Int32)}
/-- the lines' bytes -/
def pgIs (I : Nat → Nat → Int32) (π : Nat → Nat) (ls : List (List Int32)) : Prop := I 4 4 = nI ls.length ∧ ∀ k, k < ls.length → rowIs I (6 + 7 * π k + 1) (6 + 7 * π k + 2) (ls.getD k [])
def lsV (ls : List (List Int32)) : Prop := ls.length ≤ 10 ∧ ∀ k, k < ls.length → (ls.getD k []).length ≤ 30
theorem c_hasLine {k : Int32} (g : gOK w Q) (hc : I 4 4 = nI ls.length) (hl : ls.length ≤ 10) : WP mX3_hasLine 0 [.ref 4, .int k] [] w (I, Q, J) K ↔ K (some (.int (if inR k ls.length then 1 else 0))) w (I, Q, J) := by
  simp only [rX3_hasLine_0, rX3_hasLine_1, rX3_hasLine_4, rX3_hasLine_5, rX3_hasLine_6, rX3_hasLine_9, rX3_hasLine_12, rX3_hasLine_13, rX3_hasLine_15, rX3_hasLine_18, rX3_hasLine_19, rX3_hasLine_22, rX3_hasLine_23, g.2.2.1.1, hc, true_and]
  by_cases h1 : k < 0
  · rw [if_pos h1, if_neg (fun z => z.1 h1)]; simp
  · rw [if_neg h1]
    by_cases h2 : nI ls.length ≤ k
    · rw [if_pos h2, if_neg (fun z => z.2 h2)]; simp
    · obtain ⟨j, hj, rfl⟩ := inR_of (by omega) ⟨h1, h2⟩
      rw [if_neg h2, if_neg (show ¬ (10 : Int32) ≤ nI j from nI_ge (show j < 10 by omega) (by decide)), if_pos (show inR (nI j) ls.length from ⟨h1, h2⟩)]; simp
theorem c_hasByte {k i : Int32} (g : gOK w Q) (hp : piOK Q π) (r : pgIs I π ls) (hl : lsV ls) : WP mX3_hasByte 0 [.ref 4, .int k, .int i] [] w (I, Q, J) K ↔ K (some (.int (if inR k ls.length ∧ inR i (ls.getD k.toNatClampNeg []).length then 1 else 0))) w (I, Q, J) := by
  have hl10 := hl.1
  simp only [rX3_hasByte_0, rX3_hasByte_1, rX3_hasByte_2, rX3_hasByte_5, rX3_hasByte_8, rX3_hasByte_9, rX3_hasByte_12, rX3_hasByte_13, rX3_hasByte_14, rX3_hasByte_17, rX3_hasByte_18, rX3_hasByte_19, rX3_hasByte_22, rX3_hasByte_25, rX3_hasByte_28, rX3_hasByte_29, rX3_hasByte_32, rX3_hasByte_33, g.2.2.1.1, true_and]
  rw [c_hasLine g r.1 hl.1]
  simp only [tl_some, rX3_hasByte_0, rX3_hasByte_1, rX3_hasByte_2, rX3_hasByte_5, rX3_hasByte_8, rX3_hasByte_9, rX3_hasByte_12, rX3_hasByte_13, rX3_hasByte_14, rX3_hasByte_17, rX3_hasByte_18, rX3_hasByte_19, rX3_hasByte_22, rX3_hasByte_25, rX3_hasByte_28, rX3_hasByte_29, rX3_hasByte_32, rX3_hasByte_33, g.2.2.1.1, g.2.2.1.2.1, rf_some, true_and, g.2.2.1.2.2.2.2.2]
  by_cases h1 : inR k ls.length
  · rw [if_pos h1, if_neg (by decide)]
    obtain ⟨j, hj, rfl⟩ := inR_of (by omega) h1
    have hj10 : j < 10 := by omega
    obtain ⟨l1, l2, l3⟩ := g.2.2.2.1 (π j) (hp.1 j hj10).2
    have hjl := hl.2 j hj
    simp only [rX3_hasByte_0, rX3_hasByte_1, rX3_hasByte_2, rX3_hasByte_5, rX3_hasByte_8, rX3_hasByte_9, rX3_hasByte_12, rX3_hasByte_13, rX3_hasByte_14, rX3_hasByte_17, rX3_hasByte_18, rX3_hasByte_19, rX3_hasByte_22, rX3_hasByte_25, rX3_hasByte_28, rX3_hasByte_29, rX3_hasByte_32, rX3_hasByte_33, vin_nI hj10 (by decide), nI_clamp (show j < 2 ^ 31 by omega), (hp.1 j hj10).1, rf_some, l1, l2, l3.2.2.2.1.1, (r.2 j hj).1, true_and, true_or]
    by_cases h2 : i < 0
    · rw [if_pos h2, if_neg (fun z => z.2.1 h2)]
    · rw [if_neg h2]
      by_cases h3 : nI (ls.getD j []).length ≤ i
      · rw [if_pos h3, if_neg (fun z => z.2.2 h3)]
      · rw [if_neg h3, if_pos (show inR (nI j) ls.length ∧ inR i (ls.getD j []).length from ⟨h1, h2, h3⟩)]; simp
  · rw [if_neg h1, if_pos rfl, if_neg (fun z => h1 z.1)]; simp
/-- what stands open ahead of line k -/
def stAt (W : List (List Int32)) (ls : List (List Int32)) : Nat → List Nat × Nat
  | 0 => ([0], 0)
  | k + 1 => (lineP W (ls.getD k []) (stAt W ls k)).2
theorem stAt_ok (W : List (List Int32)) (ls : List (List Int32)) : ∀ k, stV (stAt W ls k)
  | 0 => by
    refine ⟨by simp [stAt], by simp [stAt], fun j hj => ?_, rfl, by simp [stAt]⟩
    have : j = 0 := by simp [stAt] at hj; omega
    subst this; simp [stAt]
  | k + 1 => (lineP_ok (stAt_ok W ls k)).2
/-- line k is painted -/
def pdIs (I : Nat → Nat → Int32) (π : Nat → Nat) (W ls : List (List Int32)) (k : Nat) : Prop := ptIs I (6 + 7 * π k) (lineP W (ls.getD k []) (stAt W ls k)).1 ∧ stIs I (6 + 7 * π k + 5) (6 + 7 * π k + 6) (stAt W ls (k + 1)) ∧ I (6 + 7 * π k) 4 = 0
theorem pdIs.fr {I I' : Nat → Nat → Int32} {π : Nat → Nat} {W ls : List (List Int32)} {k : Nat} (h : pdIs I π W ls k) (e : ∀ c, 6 + 7 * π k ≤ c → c < 6 + 7 * π k + 7 → I' c = I c) : pdIs I' π W ls k := ⟨h.1.fr (e _ (by omega) (by omega)) (e _ (by omega) (by omega)), h.2.1.fr (e _ (by omega) (by omega)) (e _ (by omega) (by omega)), by rw [e _ (by omega) (by omega)]; exact h.2.2⟩
/-- how many lines are painted anew, from k on -/
def anewP (sm : Nat → Bool) (last : Nat) : Nat → Nat → Nat
  | 0, _ => 0
  | n + 1, k => if decide (last ≤ k) && sm k then 1 else 1 + anewP sm last n (k + 1)
theorem anewP_le (sm : Nat → Bool) (last : Nat) : ∀ n k, anewP sm last n k ≤ n
  | 0, _ => Nat.le_refl _
  | n + 1, k => by
    have := anewP_le sm last n (k + 1)
    simp only [anewP]
    split <;> omega
/-- the cells of lines that painting writes -/
abbrev inkS (c : Nat) : Prop := c = 89 ∨ c = 90 ∨ c = 91 ∨ (6 ≤ c ∧ c < 76 ∧ (c - 6) % 7 ≠ 1 ∧ (c - 6) % 7 ≠ 2)
theorem c_repaint_loop (g : gOK w Q) (hp : piOK Q π) (hl : lsV ls) (hW : wdV W) (nw : Nat → Bool) (E : Nat → List Nat × Nat) (hE : ∀ k, stV (E k)) {x1 : Int32} {last : Nat} (hla : last ≤ 10) :
    ∀ n k (I : Nat → Nat → Int32) (x3 : Nat) (v5 v6 : Value), n + k = ls.length → x3 ≤ k → pgIs I π ls → wdIs I 76 78 W → stIs I 90 91 (stAt W ls k) → (∀ j, j < k → pdIs I π W ls j) → (∀ j, k ≤ j → j < ls.length → I (6 + 7 * π j) 4 = (if nw j then 1 else 0) ∧ (nw j = false → stIs I (6 + 7 * π j + 5) (6 + 7 * π j + 6) (E j))) → (∀ j, k ≤ j → last ≤ j → j + 1 < ls.length → nw j = false → nw (j + 1) = false ∧ ptIs I (6 + 7 * π (j + 1)) (lineP W (ls.getD (j + 1) []) (E j)).1 ∧ E (j + 1) = (lineP W (ls.getD (j + 1) []) (E j)).2) →
    ∃ I', (∀ j, j < ls.length → pdIs I' π W ls j) ∧ (Fr inkS I I' ∧ ∀ j, ls.length ≤ j → j < 10 → ∀ c, 6 + 7 * π j ≤ c → c < 6 + 7 * π j + 7 → I' c = I c) ∧ ∀ K, (WP mX3_repaint 53 [.ref 4, .int x1, .int (nI last), .int (nI x3), .int (nI k), v5, v6] [] w (I, Q, J) K ↔ K (some (.int (nI (x3 + anewP (fun j => !nw j && decide (stAt W ls (j + 1) = E j)) last n k)))) w (I', Q, J)) := by
  obtain ⟨-, -, ⟨c1, c2, c3, c4, c5, c6⟩, lns, pn, -⟩ := id g
  have hl10 := hl.1
  intro n
  induction n with
  | zero =>
    intro k I x3 v5 v6 hn h3 r rw0 st hpd hfl htl
    refine ⟨I, fun j hj => hpd j (by omega), ⟨Fr.rf, fun _ _ _ _ _ _ => rfl⟩, fun K => ?_⟩
    rw [rX3_repaint_53]
    simp only [rX3_repaint_0, rX3_repaint_1, rX3_repaint_2, rX3_repaint_3, rX3_repaint_4, rX3_repaint_7, rX3_repaint_10, rX3_repaint_11, rX3_repaint_14, rX3_repaint_17, rX3_repaint_18, rX3_repaint_21, rX3_repaint_22, rX3_repaint_23, rX3_repaint_24, rX3_repaint_25, rX3_repaint_28, rX3_repaint_31, rX3_repaint_34, rX3_repaint_35, rX3_repaint_38, rX3_repaint_41, rX3_repaint_44, rX3_repaint_45, rX3_repaint_46, rX3_repaint_47, rX3_repaint_48, rX3_repaint_51, rX3_repaint_55, rX3_repaint_56, rX3_repaint_59, rX3_repaint_62, rX3_repaint_63, rX3_repaint_66, rX3_repaint_68, rX3_repaint_69, rX3_repaint_71, rX3_repaint_72, rX3_repaint_75, rX3_repaint_77, rX3_repaint_78, rX3_repaint_81, rX3_repaint_84, rX3_repaint_87, rX3_repaint_89, rX3_repaint_92, rX3_repaint_95, rX3_repaint_96, rX3_repaint_99, rX3_repaint_102, rX3_repaint_104, rX3_repaint_107, rX3_repaint_110, rX3_repaint_113, rX3_repaint_114, rX3_repaint_117, rX3_repaint_118, rX3_repaint_120, rX3_repaint_122, rX3_repaint_125, rX3_repaint_126, rX3_repaint_129, rX3_repaint_132, rX3_repaint_135, rX3_repaint_137, rX3_repaint_138, rX3_repaint_141, rX3_repaint_143, rX3_repaint_146, rX3_repaint_148, rX3_repaint_149, rX3_repaint_152, rX3_repaint_153, rX3_repaint_154, rX3_repaint_157, rX3_repaint_160, rX3_repaint_161, c1, r.1, true_and]
    rw [if_pos (nI_le (show ls.length ≤ k by omega) (by omega))]
    simp [anewP]
  | succ n ih =>
    intro k I x3 v5 v6 hn h3 r rw0 st hpd hfl htl
    have hk10 : k < 10 := by omega
    have hpk := hp.1 k hk10
    have ok := lns (π k) hpk.2
    obtain ⟨o1, o2, o3, o4, o5, o6, o7, o8, o9⟩ := id ok
    have hSk := stAt_ok W ls k
    have hSk1 := stAt_ok W ls (k + 1)
    -- paint the line
    obtain ⟨I1, g1, g2, g3, g4⟩ := c_paintLine (J := J) pn ok (by omega) (r.2 k (by omega)) (hl.2 k (by omega)) hW rw0 st hSk
    have st1 : stIs I1 90 91 (stAt W ls (k + 1)) := g2
    have hf1 : ∀ z, z ≠ 89 → z ≠ 90 → z ≠ 91 → z ≠ 6 + 7 * π k + 3 → z ≠ 6 + 7 * π k + 4 → I1 z = I z := fun z q1 q2 q3 q4 q5 => g3 z (by omega)
    -- its end becomes the painter's state
    obtain ⟨I2, f1, f2, f3⟩ := c_stCopy (J := J) (I := I1) o9 pn.2.2.1 st1 hSk1.2.1 (by omega)
    have hf2 : ∀ z, z ≠ 6 + 7 * π k + 5 → z ≠ 6 + 7 * π k + 6 → I2 z = I1 z := fun z q1 q2 => f2 z (by omega)
    have hf3 : ∀ z, z ≠ 6 + 7 * π k → u2 I2 (6 + 7 * π k) 4 0 z = I2 z := fun z q => Fr_u2 z q
    -- the other lines' cells
    have oth : ∀ j, j < 10 → j ≠ k → ∀ c, 6 + 7 * π j ≤ c → c < 6 + 7 * π j + 7 → u2 I2 (6 + 7 * π k) 4 0 c = I c := by
      intro j hj hjk c q1 q2
      have hne : π j ≠ π k := fun z => hjk (hp.2 j k hj hk10 z)
      rw [hf3 c (by omega), hf2 c (by omega) (by omega), hf1 c (by have := (hp.1 j hj).2; omega) (by have := (hp.1 j hj).2; omega) (by have := (hp.1 j hj).2; omega) (by omega) (by omega)]
    have hnew : pdIs (u2 I2 (6 + 7 * π k) 4 0) π W ls k := by
      refine ⟨g1.fr ((hf3 _ (by omega)).trans (hf2 _ (by omega) (by omega))) ((hf3 _ (by omega)).trans (hf2 _ (by omega) (by omega))), f1.fr (hf3 _ (by omega)) (hf3 _ (by omega)), u2_same⟩
    have hpd' : ∀ j, j < k + 1 → pdIs (u2 I2 (6 + 7 * π k) 4 0) π W ls j := by
      intro j hj
      by_cases e : j = k
      · rw [e]; exact hnew
      · exact (hpd j (by omega)).fr (oth j (by omega) e)
    have hFr : Fr inkS I (u2 I2 (6 + 7 * π k) 4 0) := Fr.tr (Fr.tr (S := inkS) g3 f2 (fun c z => by omega) (fun c z => by omega)) Fr_u2 (fun c z => z) (fun c z => by omega)
    have r' : pgIs (u2 I2 (6 + 7 * π k) 4 0) π ls := ⟨by rw [hFr 4 (by omega)]; exact r.1, fun j hj => (r.2 j hj).fr (hFr _ (by have := (hp.1 j (by omega)).2; omega)) (hFr _ (by have := (hp.1 j (by omega)).2; omega))⟩
    have rw' : wdIs (u2 I2 (6 + 7 * π k) 4 0) 76 78 W := rw0.fr hW.1 (hFr 76 (by omega)) (fun c q1 q2 => hFr c (by omega))
    have st' : stIs (u2 I2 (6 + 7 * π k) 4 0) 90 91 (stAt W ls (k + 1)) := st1.fr ((hf3 90 (by omega)).trans (hf2 90 (by omega) (by omega))) ((hf3 91 (by omega)).trans (hf2 91 (by omega) (by omega)))
    -- the walk as far as the test
    have flag : I1 (6 + 7 * π k) 4 = (if nw k then 1 else 0) := by rw [hf1 _ (by omega) (by omega) (by omega) (by omega) (by omega)]; exact (hfl k (Nat.le_refl _) (by omega)).1
    have fin : ∀ (v : Int32) {K : Option Value → WS → HS → Prop}, WP mX3_repaint 118 [.ref 4, .int x1, .int (nI last), .int (nI (x3 + 1)), .int (nI k), .ref (6 + 7 * π k), v6] [.int v] w (I1, Q, J) K ↔ WP mX3_repaint 141 [.ref 4, .int x1, .int (nI last), .int (nI (x3 + 1)), .int (nI k), .ref (6 + 7 * π k), .int v] [] w (u2 I2 (6 + 7 * π k) 4 0, Q, J) K := by
      intro v K
      simp only [rX3_repaint_118, rX3_repaint_120, rX3_repaint_122, rX3_repaint_125, rX3_repaint_126, rX3_repaint_129, rX3_repaint_132, rX3_repaint_135, rX3_repaint_137, rX3_repaint_138, c1, c5, o1, o5, rf_some, true_and, pn.1, pn.2.1, o9.1]
      rw [f3]
      simp only [tl_none, rX3_repaint_118, rX3_repaint_120, rX3_repaint_122, rX3_repaint_125, rX3_repaint_126, rX3_repaint_129, rX3_repaint_132, rX3_repaint_135, rX3_repaint_137, rX3_repaint_138, o1, true_and, true_or]
    have hsm : ∀ {K : Option Value → WS → HS → Prop}, WP mX3_repaint 53 [.ref 4, .int x1, .int (nI last), .int (nI x3), .int (nI k), v5, v6] [] w (I, Q, J) K ↔ WP mX3_repaint 141 [.ref 4, .int x1, .int (nI last), .int (nI (x3 + 1)), .int (nI k), .ref (6 + 7 * π k), .int (if !nw k && decide (stAt W ls (k + 1) = E k) then 1 else 0)] [] w (u2 I2 (6 + 7 * π k) 4 0, Q, J) K := by
      intro K
      rw [rX3_repaint_53]
      simp only [rX3_repaint_55, rX3_repaint_56, rX3_repaint_59, rX3_repaint_62, rX3_repaint_63, rX3_repaint_66, rX3_repaint_68, rX3_repaint_69, rX3_repaint_71, rX3_repaint_72, rX3_repaint_75, rX3_repaint_77, rX3_repaint_78, rX3_repaint_81, c1, c2, c3, c5, c6, r.1, true_and, true_or, rf_some, vin_nI hk10 (by decide), nI_clamp (show k < 2 ^ 31 by omega), hpk.1, pn.1]
      rw [if_neg (nI_ge (show k < ls.length by omega) (by omega)), g4]
      simp only [tl_none, rX3_repaint_84, rX3_repaint_87, rX3_repaint_89, rX3_repaint_92, nI_1, o1, true_and, flag]
      cases hnw : nw k with
      | true =>
        rw [if_pos (by decide)]
        simp only [rX3_repaint_117]
        rw [fin]
        simp
      | false =>
        rw [if_neg (by decide)]
        have stE : stIs I1 (6 + 7 * π k + 5) (6 + 7 * π k + 6) (E k) := ((hfl k (Nat.le_refl _) (by omega)).2 hnw).fr (hf1 _ (by omega) (by omega) (by omega) (by omega) (by omega)) (hf1 _ (by omega) (by omega) (by omega) (by omega) (by omega))
        simp only [rX3_repaint_95, rX3_repaint_96, rX3_repaint_99, rX3_repaint_102, rX3_repaint_104, rX3_repaint_107, c1, c5, pn.1, pn.2.1, pn.2.2.1.1, o1, o5, rf_some, true_and]
        rw [c_stLike pn.2.2.1 st1 hSk1 o9 stE (hE k)]
        simp only [tl_some, rX3_repaint_110, rX3_repaint_113, rX3_repaint_114, rX3_repaint_117]
        by_cases e : stAt W ls (k + 1) = E k
        · rw [if_pos e, if_neg (by decide), fin]; simp [e]
        · rw [if_neg e, if_pos rfl, fin]; simp [e]
    by_cases hstop : last ≤ k ∧ (!nw k && decide (stAt W ls (k + 1) = E k)) = true
    · -- it stops here: the lines behind are as they should be
      have hb : nw k = false ∧ stAt W ls (k + 1) = E k := by simpa using hstop.2
      have key : ∀ d, k + d < ls.length → nw (k + d) = false ∧ E (k + d) = stAt W ls (k + d + 1) ∧ (0 < d → ptIs I (6 + 7 * π (k + d)) (lineP W (ls.getD (k + d) []) (stAt W ls (k + d))).1) := by
        intro d
        induction d with
        | zero => intro _; exact ⟨hb.1, hb.2.symm, fun z => absurd z (by decide)⟩
        | succ d ihd =>
          intro hd
          obtain ⟨k1, k2, -⟩ := ihd (by omega)
          obtain ⟨m1, m2, m3⟩ := htl (k + d) (by omega) (by omega) (by omega) k1
          rw [k2] at m2 m3
          exact ⟨m1, m3, fun _ => m2⟩
      refine ⟨u2 I2 (6 + 7 * π k) 4 0, fun j hj => ?_, ⟨hFr, fun j h1 h2 c z1 z2 => oth j h2 (by omega) c z1 z2⟩, fun K => ?_⟩
      · by_cases e : j < k + 1
        · exact hpd' j e
        · obtain ⟨d, rfl⟩ : ∃ d, j = k + d := ⟨j - k, by omega⟩
          obtain ⟨k1, k2, k3⟩ := key d hj
          have fl := hfl (k + d) (by omega) hj
          have ot := oth (k + d) (by omega) (by omega)
          refine ⟨(k3 (by omega)).fr (ot _ (by omega) (by omega)) (ot _ (by omega) (by omega)), ?_, ?_⟩
          · have := fl.2 k1
            rw [k2] at this
            exact this.fr (ot _ (by omega) (by omega)) (ot _ (by omega) (by omega))
          · rw [ot _ (by omega) (by omega), fl.1, k1]; rfl
      · rw [hsm, if_pos hstop.2]
        have ea : anewP (fun j => !nw j && decide (stAt W ls (j + 1) = E j)) last (n + 1) k = 1 := by
          simp only [anewP]
          rw [if_pos (by rw [Bool.and_eq_true]; exact ⟨by simpa using hstop.1, hstop.2⟩)]
        rw [ea]
        simp only [rX3_repaint_141, rX3_repaint_143, rX3_repaint_146, rX3_repaint_148, rX3_repaint_149, rX3_repaint_152, rX3_repaint_153]
        rw [if_neg (by decide), if_neg (nI_nlt hstop.1 (by omega))]
    · obtain ⟨I', q1, q2, q3⟩ := ih (k + 1) (u2 I2 (6 + 7 * π k) 4 0) (x3 + 1) (.ref (6 + 7 * π k)) (.int (if !nw k && decide (stAt W ls (k + 1) = E k) then 1 else 0)) (by omega) (by omega) r' rw' st' hpd' (fun j h1 h2 => by
        have ot := oth j (by omega) (by omega)
        have fl := hfl j (by omega) h2
        exact ⟨by rw [ot _ (by omega) (by omega)]; exact fl.1, fun z => (fl.2 z).fr (ot _ (by omega) (by omega)) (ot _ (by omega) (by omega))⟩) (fun j h1 h2 h3 h4 => by
        have ot := oth (j + 1) (by omega) (by omega)
        obtain ⟨m1, m2, m3⟩ := htl j (by omega) h2 h3 h4
        exact ⟨m1, m2.fr (ot _ (by omega) (by omega)) (ot _ (by omega) (by omega)), m3⟩)
      refine ⟨I', q1, ⟨Fr.tr hFr q2.1 (fun c z => z) (fun c z => z), fun j h1 h2 c z1 z2 => (q2.2 j h1 h2 c z1 z2).trans (oth j h2 (by omega) c z1 z2)⟩, fun K => ?_⟩
      have ea : anewP (fun j => !nw j && decide (stAt W ls (j + 1) = E j)) last (n + 1) k = 1 + anewP (fun j => !nw j && decide (stAt W ls (j + 1) = E j)) last n (k + 1) := by
        simp only [anewP]
        rw [if_neg (by rw [Bool.and_eq_true]; rintro ⟨z1, z2⟩; exact hstop ⟨by simpa using z1, z2⟩)]
      rw [ea, ← Nat.add_assoc, ← q3 K, hsm]
      by_cases e1 : (!nw k && decide (stAt W ls (k + 1) = E k)) = true
      · rw [if_pos e1]
        simp only [rX3_repaint_141, rX3_repaint_143, rX3_repaint_146, rX3_repaint_148, rX3_repaint_149, rX3_repaint_152, rX3_repaint_153, rX3_repaint_154, rX3_repaint_157]
        have : k < last := by
          rcases Nat.lt_or_ge k last with z | z
          · exact z
          · exact absurd ⟨z, e1⟩ hstop
        rw [if_neg (by decide), if_pos (nI_lt this (by omega)), nI_1]
      · rw [if_neg e1]
        simp only [rX3_repaint_141, rX3_repaint_143, rX3_repaint_146, rX3_repaint_148, rX3_repaint_149, rX3_repaint_152, rX3_repaint_153, rX3_repaint_154, rX3_repaint_157, if_true, nI_1]
end PG
