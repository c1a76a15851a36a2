section PG2
variable {w : WS} {I : Nat → Nat → Int32} {Q : Nat → Nat → Option Nat} {J : Nat → Nat → Int64} {K : Option Value → WS → HS → Prop} {π : Nat → Nat} {ls : List (List Int32)} {W : List (List Int32)}
/-- what must hold ahead of painting anew from a line on -/
def preRp (I : Nat → Nat → Int32) (π : Nat → Nat) (W ls : List (List Int32)) (nw : Nat → Bool) (E : Nat → List Nat × Nat) (first last : Nat) : Prop :=
  (∀ j, j < first → pdIs I π W ls j) ∧ (∀ j, first ≤ j → j < ls.length → I (6 + 7 * π j) 4 = (if nw j then 1 else 0) ∧ (nw j = false → stIs I (6 + 7 * π j + 5) (6 + 7 * π j + 6) (E j))) ∧ (∀ j, first ≤ j → last ≤ j → j + 1 < ls.length → nw j = false → nw (j + 1) = false ∧ ptIs I (6 + 7 * π (j + 1)) (lineP W (ls.getD (j + 1) []) (E j)).1 ∧ E (j + 1) = (lineP W (ls.getD (j + 1) []) (E j)).2)
def anewN (W ls : List (List Int32)) (nw : Nat → Bool) (E : Nat → List Nat × Nat) (first last : Nat) : Nat := anewP (fun j => !nw j && decide (stAt W ls (j + 1) = E j)) last (ls.length - first) first
theorem c_repaint (g : gOK w Q) (hp : piOK Q π) (hl : lsV ls) (hW : wdV W) (nw : Nat → Bool) (E : Nat → List Nat × Nat) (hE : ∀ k, stV (E k)) {first last : Nat} (hla : last ≤ 10) (hfi : first ≤ ls.length) (r : pgIs I π ls) (rw0 : wdIs I 76 78 W) (pre : preRp I π W ls nw E first last) : ∃ I', (∀ j, j < ls.length → pdIs I' π W ls j) ∧ (Fr inkS I I' ∧ ∀ j, ls.length ≤ j → j < 10 → ∀ c, 6 + 7 * π j ≤ c → c < 6 + 7 * π j + 7 → I' c = I c) ∧ ∀ K, (WP mX3_repaint 0 [.ref 4, .int (nI first), .int (nI last), .null, .null, .null, .null] [] w (I, Q, J) K ↔ K (some (.int (nI (anewN W ls nw E first last)))) w (I', Q, J)) := by
  obtain ⟨-, -, ⟨c1, c2, c3, c4, c5, c6⟩, lns, pn, -⟩ := id g
  obtain ⟨p1, p2, p3⟩ := pre
  have hl10 := hl.1
  -- what stands open ahead of the first line
  have start : ∃ I1, stIs I1 90 91 (stAt W ls first) ∧ Fr (fun c => c = 90 ∨ c = 91) I I1 ∧ ∀ K, (WP mX3_repaint 0 [.ref 4, .int (nI first), .int (nI last), .null, .null, .null, .null] [] w (I, Q, J) K ↔ WP mX3_repaint 44 [.ref 4, .int (nI first), .int (nI last), .null, .null, .null, .null] [] w (I1, Q, J) K) := by
    by_cases h0 : first = 0
    · subst h0
      obtain ⟨I1, g1, g2, g3⟩ := c_stBegin (I := I) (J := J) pn.2.2.1
      refine ⟨I1, g1, g2, fun K => ?_⟩
      simp only [rX3_repaint_0, rX3_repaint_1, rX3_repaint_2, rX3_repaint_3, rX3_repaint_4, c1, true_and]
      rw [c_hasLine g r.1 hl.1, if_neg (show ¬ inR (nI 0 - 1) ls.length from fun z => z.1 (by decide))]
      simp only [tl_some, rX3_repaint_7, rX3_repaint_10, rX3_repaint_11, rX3_repaint_14, rX3_repaint_17, rX3_repaint_18, rX3_repaint_21, rX3_repaint_22, rX3_repaint_23, rX3_repaint_24, rX3_repaint_25, rX3_repaint_28, rX3_repaint_31, rX3_repaint_34, rX3_repaint_35, rX3_repaint_38, rX3_repaint_41, if_true, c1, c5, rf_some, pn.1, pn.2.1, pn.2.2.1.1, true_and]
      rw [g3]
      simp only [tl_none]
    · have e1 : nI first - 1 = nI (first - 1) := pk_sub (show 1 ≤ first by omega)
      have hk10 : first - 1 < 10 := by omega
      have ok := lns (π (first - 1)) (hp.1 _ hk10).2
      have hpd := p1 (first - 1) (by omega)
      have hst := hpd.2.1
      rw [show first - 1 + 1 = first by omega] at hst
      have hpi := (hp.1 _ hk10).2
      obtain ⟨I1, g1, g2, g3⟩ := c_stCopy (I := I) (J := J) pn.2.2.1 ok.2.2.2.2.2.2.2.2 hst (stAt_ok W ls first).2.1 (by omega)
      refine ⟨I1, g1, g2, fun K => ?_⟩
      simp only [rX3_repaint_0, rX3_repaint_1, rX3_repaint_2, rX3_repaint_3, rX3_repaint_4, c1, true_and, e1]
      rw [c_hasLine g r.1 hl.1, if_pos (inR_lt (show first - 1 < ls.length by omega) (by omega))]
      simp only [tl_some, rX3_repaint_7, rX3_repaint_10, rX3_repaint_11, rX3_repaint_14, rX3_repaint_17, rX3_repaint_18, rX3_repaint_21, rX3_repaint_22, rX3_repaint_23, rX3_repaint_24, rX3_repaint_25, rX3_repaint_28, rX3_repaint_31, c1, c2, c5, c6, rf_some, pn.1, pn.2.1, pn.2.2.1.1, true_and, true_or, e1, vin_nI hk10 (by decide), nI_clamp (show first - 1 < 2 ^ 31 by omega), (hp.1 _ hk10).1, ok.1, ok.2.2.2.2.1]
      rw [if_neg (by decide), g3]
      simp only [tl_none, rX3_repaint_7, rX3_repaint_10, rX3_repaint_11, rX3_repaint_14, rX3_repaint_17, rX3_repaint_18, rX3_repaint_21, rX3_repaint_22, rX3_repaint_23, rX3_repaint_24, rX3_repaint_25, rX3_repaint_28, rX3_repaint_31]
  obtain ⟨I1, s1, s2, s3⟩ := start
  have e : ∀ z, z ≠ 90 → z ≠ 91 → I1 z = I z := fun z q1 q2 => s2 z (by omega)
  have e7 : ∀ j, j < ls.length → ∀ c, 6 + 7 * π j ≤ c → c < 6 + 7 * π j + 7 → I1 c = I c := fun j hj c q1 q2 => by
    have := (hp.1 j (by omega)).2
    exact e c (by omega) (by omega)
  have r1 : pgIs I1 π ls := ⟨by rw [e 4 (by omega) (by omega)]; exact r.1, fun j hj => (r.2 j hj).fr (e7 j hj _ (by omega) (by omega)) (e7 j hj _ (by omega) (by omega))⟩
  obtain ⟨I', q1, q2, q3⟩ := c_repaint_loop (J := J) (x1 := nI first) g hp hl hW nw E hE hla (ls.length - first) first I1 0 .null .null (by omega) (Nat.zero_le _) r1 (rw0.fr hW.1 (e 76 (by omega) (by omega)) (fun c h1 h2 => e c (by omega) (by omega))) s1 (fun j hj => (p1 j hj).fr (e7 j (by omega))) (fun j h1 h2 => ⟨by rw [e7 j h2 _ (by omega) (by omega)]; exact (p2 j h1 h2).1, fun z => ((p2 j h1 h2).2 z).fr (e7 j h2 _ (by omega) (by omega)) (e7 j h2 _ (by omega) (by omega))⟩) (fun j h1 h2 h3 h4 => by
    obtain ⟨m1, m2, m3⟩ := p3 j h1 h2 h3 h4
    exact ⟨m1, m2.fr (e7 _ h3 _ (by omega) (by omega)) (e7 _ h3 _ (by omega) (by omega)), m3⟩)
  refine ⟨I', q1, ⟨Fr.tr s2 q2.1 (fun c z => by omega) (fun c z => z), fun j h1 h2 c z1 z2 => (q2.2 j h1 h2 c z1 z2).trans (e c (by have := (hp.1 j h2).2; omega) (by have := (hp.1 j h2).2; omega))⟩, fun K => ?_⟩
  have em : (if (0 : Int32) < nI first then nI first else 0) = nI first := by
    by_cases h0 : first = 0
    · subst h0; rfl
    · rw [if_pos (show (0 : Int32) < nI first from nI_lt (a := 0) (by omega) (by omega))]
  rw [s3]
  simp only [rX3_repaint_44, rX3_repaint_45, rX3_repaint_46, rX3_repaint_47, rX3_repaint_48, rX3_repaint_51, em]
  have := q3 K
  rw [nI_0, Nat.zero_add] at this
  exact this
/-- which line holds which place (not yet all different) -/
def qIs (Q : Nat → Nat → Option Nat) (ρ : Nat → Nat) : Prop := ∀ i, i < 10 → Q 5 i = some (6 + 7 * ρ i) ∧ ρ i < 10
theorem qIs.put {Q : Nat → Nat → Option Nat} {ρ : Nat → Nat} {k v : Nat} (h : qIs Q ρ) (hv : v < 10) : qIs (u2 Q 5 k (some (6 + 7 * v))) (fun i => if i = k then v else ρ i) := by
  intro i hi
  by_cases e : i = k
  · subst e; rw [u2_same]; dsimp only; rw [if_pos rfl]; exact ⟨rfl, hv⟩
  · rw [u2_ne (Or.inr e)]; dsimp only; rw [if_neg e]; exact h i hi
theorem u2_q {Q : Nat → Nat → Option Nat} {k : Nat} {v : Option Nat} {c : Nat} (hc : c ≠ 5) : u2 Q 5 k v c = Q c := by funext j; simp [u2, hc]
def opP (π : Nat → Nat) (k n : Nat) (i : Nat) : Nat := if i = k then π n else if k < i ∧ i ≤ n then π (i - 1) else π i
def clP (π : Nat → Nat) (k n : Nat) (i : Nat) : Nat := if i = n - 1 then π k else if k ≤ i ∧ i < n - 1 then π (i + 1) else π i
theorem c_open_loop {k b : Nat} (hk : k < 10) : ∀ d j (Q : Nat → Nat → Option Nat) (ρ : Nat → Nat), j = k + d → j < 10 → gOK w Q → qIs Q ρ → ∃ Q' : Nat → Nat → Option Nat, (∀ c, c ≠ 5 → Q' c = Q c) ∧ qIs Q' (fun i => if k < i ∧ i ≤ j then ρ (i - 1) else ρ i) ∧ ∀ K, (WP mX3_openLine 37 [.ref 4, .int (nI k), .ref b, .int (nI j)] [] w (I, Q, J) K ↔ WP mX3_openLine 62 [.ref 4, .int (nI k), .ref b, .int (nI k)] [] w (I, Q', J) K) := by
  intro d
  induction d with
  | zero =>
    intro j Q ρ hj hj10 g q
    refine ⟨Q, fun _ _ => rfl, fun i hi => by dsimp only; rw [if_neg (by omega)]; exact q i hi, fun K => ?_⟩
    rw [rX3_openLine_37]
    simp only [rX3_openLine_38, rX3_openLine_39]
    rw [if_pos (nI_le (show j ≤ k by omega) (by omega)), show j = k by omega]
  | succ d ih =>
    intro j Q ρ hj hj10 g q
    obtain ⟨-, -, ⟨c1, c2, c3, c4, c5, c6⟩, lns, -⟩ := id g
    have e1 : nI j - 1 = nI (j - 1) := pk_sub (show 1 ≤ j by omega)
    have e2 : nI j + (-1) = nI (j - 1) := by have := pk_m1 (j - 1); rwa [show j - 1 + 1 = j by omega] at this
    have hq := q (j - 1) (by omega)
    have hln := (lns (ρ (j - 1)) hq.2).1
    obtain ⟨Q', f1, f2, f3⟩ := ih (j - 1) (u2 Q 5 j (some (6 + 7 * ρ (j - 1)))) (fun i => if i = j then ρ (j - 1) else ρ i) (by omega) (by omega) (g.q (fun c hc => u2_q hc)) (q.put hq.2)
    refine ⟨Q', fun c hc => (f1 c hc).trans (u2_q hc), fun i hi => ?_, fun K => ?_⟩
    · have := f2 i hi
      dsimp only at this ⊢
      by_cases e : k < i ∧ i ≤ j
      · rw [if_pos e]
        by_cases e3 : i = j
        · rw [if_neg (by omega), if_pos e3] at this; rw [e3] at this ⊢; exact this
        · rw [if_pos (by omega), if_neg (by omega)] at this; exact this
      · rw [if_neg e]
        rw [if_neg (by omega), if_neg (by omega)] at this; exact this
    · rw [rX3_openLine_37]
      simp only [rX3_openLine_38, rX3_openLine_39, rX3_openLine_42, rX3_openLine_43, rX3_openLine_46, rX3_openLine_47, rX3_openLine_48, rX3_openLine_51, rX3_openLine_52, rX3_openLine_53, rX3_openLine_54, rX3_openLine_55, rX3_openLine_56, rX3_openLine_59, c1, c2, c6, true_and, true_or, rf_some, e1, vin_nI (show j - 1 < 10 by omega) (by decide), vin_nI hj10 (by decide), nI_clamp (show j - 1 < 2 ^ 31 by omega), nI_clamp (show j < 2 ^ 31 by omega), hq.1, hln, e2]
      rw [if_neg (nI_ge (show k < j by omega) (by omega))]
      simp only [show clOf (21 - 20) = 2 from rfl, true_and]
      exact f3 K
theorem c_openLine {k : Nat} (g : gOK w Q) (hp : piOK Q π) (r : I 4 4 = nI ls.length) (hl : ls.length < 10) (hk : k ≤ ls.length) : ∃ (I' : Nat → Nat → Int32) (Q' : Nat → Nat → Option Nat), (∀ c, c ≠ 5 → Q' c = Q c) ∧ piOK Q' (opP π k ls.length) ∧ I' = u2 (u2 (u2 I (6 + 7 * π ls.length + 1) 1 0) (6 + 7 * π ls.length) 4 1) 4 4 (nI (ls.length + 1)) ∧ ∀ K, (WP mX3_openLine 0 [.ref 4, .int (nI k), .null, .null] [] w (I, Q, J) K ↔ K none w (I', Q', J)) := by
  obtain ⟨-, -, ⟨c1, c2, c3, c4, c5, c6⟩, lns, -⟩ := id g
  have hn := hp.1 ls.length hl
  obtain ⟨Q1, f1, f2, f3⟩ := c_open_loop (I := I) (J := J) (k := k) (b := 6 + 7 * π ls.length) (by omega) (ls.length - k) ls.length Q π (by omega) hl g hp.1
  have g1 : gOK w Q1 := g.q f1
  obtain ⟨-, -, ⟨d1, d2, d3, d4, d5, d6⟩, lns1, -⟩ := id g1
  have hln := lns1 (π ls.length) hn.2
  refine ⟨_, u2 Q1 5 k (some (6 + 7 * π ls.length)), fun c hc => (u2_q hc).trans (f1 c hc), ⟨fun i hi => ?_, fun i j hi hj e => ?_⟩, rfl, fun K => ?_⟩
  · have := f2.put (k := k) hn.2 i hi
    unfold opP
    dsimp only at this
    exact this
  · unfold opP at e
    by_cases a1 : i = k
    · rw [if_pos a1] at e
      by_cases a2 : j = k
      · omega
      · rw [if_neg a2] at e
        by_cases a3 : k < j ∧ j ≤ ls.length
        · rw [if_pos a3] at e; have := hp.2 _ _ hl (by omega) e; omega
        · rw [if_neg a3] at e; have := hp.2 _ _ hl hj e; omega
    · rw [if_neg a1] at e
      by_cases a2 : j = k
      · rw [if_pos a2] at e
        by_cases a3 : k < i ∧ i ≤ ls.length
        · rw [if_pos a3] at e; have := hp.2 _ _ (by omega) hl e; omega
        · rw [if_neg a3] at e; have := hp.2 _ _ hi hl e; omega
      · rw [if_neg a2] at e
        by_cases a3 : k < i ∧ i ≤ ls.length <;> by_cases a4 : k < j ∧ j ≤ ls.length
        · rw [if_pos a3, if_pos a4] at e; have := hp.2 _ _ (by omega) (by omega) e; omega
        · rw [if_pos a3, if_neg a4] at e; have := hp.2 _ _ (by omega) hj e; omega
        · rw [if_neg a3, if_pos a4] at e; have := hp.2 _ _ hi (by omega) e; omega
        · rw [if_neg a3, if_neg a4] at e; exact hp.2 _ _ hi hj e
  · simp only [rX3_openLine_0, rX3_openLine_1, rX3_openLine_4, rX3_openLine_5, rX3_openLine_6, rX3_openLine_9, rX3_openLine_12, rX3_openLine_13, rX3_openLine_16, rX3_openLine_18, rX3_openLine_21, rX3_openLine_22, rX3_openLine_23, rX3_openLine_26, rX3_openLine_27, rX3_openLine_30, rX3_openLine_31, rX3_openLine_32, rX3_openLine_33, rX3_openLine_36, c1, c2, c6, r, true_and, true_or, rf_some, vin_nI hl (by decide), nI_clamp (show ls.length < 2 ^ 31 by omega), hn.1, nI_pos (show k < 2 ^ 31 by omega), if_false]
    rw [if_neg (nI_nlt hk (by omega)), if_pos (show nI ls.length < 10 from nI_lt hl (by decide)), f3]
    have hq1 : u2 Q1 5 k (some (6 + 7 * π ls.length)) (6 + 7 * π ls.length) = Q1 (6 + 7 * π ls.length) := u2_q (by omega)
    simp only [rX3_openLine_62, rX3_openLine_63, rX3_openLine_66, rX3_openLine_67, rX3_openLine_68, rX3_openLine_69, rX3_openLine_70, rX3_openLine_73, rX3_openLine_74, rX3_openLine_77, rX3_openLine_78, rX3_openLine_79, rX3_openLine_82, rX3_openLine_83, rX3_openLine_84, rX3_openLine_87, rX3_openLine_88, rX3_openLine_89, rX3_openLine_92, d1, d2, d6, true_and, true_or, rf_some, vin_nI (show k < 10 by omega) (by decide), nI_clamp (show k < 2 ^ 31 by omega), show clOf (21 - 20) = 2 from rfl, hln.1, hln.2.1, hln.2.2.2.2.2.1.1, hq1, or_true, nI_1]
    have e4 : u2 (u2 I (6 + 7 * π ls.length + 1) 1 0) (6 + 7 * π ls.length) 4 1 4 4 = nI ls.length := by rw [u2_ne (Or.inl (by omega)), u2_ne (Or.inl (by omega))]; exact r
    rw [e4, nI_1]
theorem c_close_loop {k n b : Nat} (hn : n ≤ 10) (hI : I 4 4 = nI n) : ∀ d j (Q : Nat → Nat → Option Nat) (ρ : Nat → Nat), j + d = n - 1 → gOK w Q → qIs Q ρ → ∃ Q' : Nat → Nat → Option Nat, (∀ c, c ≠ 5 → Q' c = Q c) ∧ qIs Q' (fun i => if j ≤ i ∧ i < n - 1 then ρ (i + 1) else ρ i) ∧ ∀ K, (WP mX3_closeLine 18 [.ref 4, .int (nI k), .ref b, .int (nI j)] [] w (I, Q, J) K ↔ WP mX3_closeLine 48 [.ref 4, .int (nI k), .ref b, .int (nI (n - 1))] [] w (I, Q', J) K) := by
  intro d
  induction d with
  | zero =>
    intro j Q ρ hj g q
    obtain ⟨-, -, ⟨c1, c2, c3, c4, c5, c6⟩, lns, -⟩ := id g
    refine ⟨Q, fun _ _ => rfl, fun i hi => by dsimp only; rw [if_neg (by omega)]; exact q i hi, fun K => ?_⟩
    rw [rX3_closeLine_18]
    by_cases hn0 : n = 0
    · subst hn0
      have hj0 : j = 0 := by omega
      subst hj0
      simp only [rX3_closeLine_19, rX3_closeLine_20, rX3_closeLine_23, rX3_closeLine_24, rX3_closeLine_25, c1, hI, true_and]
      rw [if_pos (by decide)]
    · have e1 : nI n - 1 = nI (n - 1) := pk_sub (show 1 ≤ n by omega)
      simp only [rX3_closeLine_19, rX3_closeLine_20, rX3_closeLine_23, rX3_closeLine_24, rX3_closeLine_25, c1, hI, true_and, e1]
      rw [if_pos (nI_le (show n - 1 ≤ j by omega) (by omega)), show j = n - 1 by omega]
  | succ d ih =>
    intro j Q ρ hj g q
    obtain ⟨-, -, ⟨c1, c2, c3, c4, c5, c6⟩, lns, -⟩ := id g
    have e1 : nI n - 1 = nI (n - 1) := pk_sub (show 1 ≤ n by omega)
    have hq := q (j + 1) (by omega)
    have hln := (lns (ρ (j + 1)) hq.2).1
    obtain ⟨Q', f1, f2, f3⟩ := ih (j + 1) (u2 Q 5 j (some (6 + 7 * ρ (j + 1)))) (fun i => if i = j then ρ (j + 1) else ρ i) (by omega) (g.q (fun c hc => u2_q hc)) (q.put hq.2)
    refine ⟨Q', fun c hc => (f1 c hc).trans (u2_q hc), fun i hi => ?_, fun K => ?_⟩
    · have := f2 i hi
      dsimp only at this ⊢
      by_cases e : j ≤ i ∧ i < n - 1
      · rw [if_pos e]
        by_cases e3 : i = j
        · rw [if_neg (by omega), if_pos e3] at this; rw [e3] at this ⊢; exact this
        · rw [if_pos (by omega), if_neg (by omega)] at this; exact this
      · rw [if_neg e]
        rw [if_neg (by omega), if_neg (by omega)] at this; exact this
    · rw [rX3_closeLine_18]
      simp only [rX3_closeLine_19, rX3_closeLine_20, rX3_closeLine_23, rX3_closeLine_24, rX3_closeLine_25, rX3_closeLine_28, rX3_closeLine_29, rX3_closeLine_32, rX3_closeLine_33, rX3_closeLine_34, rX3_closeLine_37, rX3_closeLine_38, rX3_closeLine_39, rX3_closeLine_40, rX3_closeLine_41, rX3_closeLine_42, rX3_closeLine_45, c1, c2, c6, hI, true_and, true_or, rf_some, e1, nI_1, vin_nI (show j + 1 < 10 by omega) (by decide), vin_nI (show j < 10 by omega) (by decide), nI_clamp (show j + 1 < 2 ^ 31 by omega), nI_clamp (show j < 2 ^ 31 by omega), hq.1, hln]
      rw [if_neg (nI_ge (show j < n - 1 by omega) (by omega))]
      simp only [show clOf (21 - 20) = 2 from rfl, true_and]
      exact f3 K
theorem c_closeLine {k : Nat} (g : gOK w Q) (hp : piOK Q π) (r : I 4 4 = nI ls.length) (hl : ls.length ≤ 10) (hk : k < ls.length) : ∃ (Q' : Nat → Nat → Option Nat), (∀ c, c ≠ 5 → Q' c = Q c) ∧ piOK Q' (clP π k ls.length) ∧ ∀ K, (WP mX3_closeLine 0 [.ref 4, .int (nI k), .null, .null] [] w (I, Q, J) K ↔ K none w (u2 I 4 4 (nI (ls.length - 1)), Q', J)) := by
  obtain ⟨-, -, ⟨c1, c2, c3, c4, c5, c6⟩, lns, -⟩ := id g
  have hkk := hp.1 k (by omega)
  have e1 : nI ls.length - 1 = nI (ls.length - 1) := pk_sub (show 1 ≤ ls.length by omega)
  obtain ⟨Q1, f1, f2, f3⟩ := c_close_loop (I := I) (J := J) (k := k) (b := 6 + 7 * π k) hl r (ls.length - 1 - k) k Q π (by omega) g hp.1
  have g1 : gOK w Q1 := g.q f1
  obtain ⟨-, -, ⟨d1, d2, d3, d4, d5, d6⟩, lns1, -⟩ := id g1
  have hln := lns1 (π k) hkk.2
  refine ⟨u2 Q1 5 (ls.length - 1) (some (6 + 7 * π k)), fun c hc => (u2_q hc).trans (f1 c hc), ⟨fun i hi => ?_, fun i j hi hj e => ?_⟩, fun K => ?_⟩
  · have := f2.put (k := ls.length - 1) hkk.2 i hi
    unfold clP
    dsimp only at this
    exact this
  · unfold clP at e
    by_cases a1 : i = ls.length - 1
    · rw [if_pos a1] at e
      by_cases a2 : j = ls.length - 1
      · omega
      · rw [if_neg a2] at e
        by_cases a3 : k ≤ j ∧ j < ls.length - 1
        · rw [if_pos a3] at e; have := hp.2 _ _ (by omega) (by omega) e; omega
        · rw [if_neg a3] at e; have := hp.2 _ _ (by omega) hj e; omega
    · rw [if_neg a1] at e
      by_cases a2 : j = ls.length - 1
      · rw [if_pos a2] at e
        by_cases a3 : k ≤ i ∧ i < ls.length - 1
        · rw [if_pos a3] at e; have := hp.2 _ _ (by omega) (by omega) e; omega
        · rw [if_neg a3] at e; have := hp.2 _ _ hi (by omega) e; omega
      · rw [if_neg a2] at e
        by_cases a3 : k ≤ i ∧ i < ls.length - 1 <;> by_cases a4 : k ≤ j ∧ j < ls.length - 1
        · rw [if_pos a3, if_pos a4] at e; have := hp.2 _ _ (by omega) (by omega) e; omega
        · rw [if_pos a3, if_neg a4] at e; have := hp.2 _ _ (by omega) hj e; omega
        · rw [if_neg a3, if_pos a4] at e; have := hp.2 _ _ hi (by omega) e; omega
        · rw [if_neg a3, if_neg a4] at e; exact hp.2 _ _ hi hj e
  · simp only [rX3_closeLine_0, rX3_closeLine_1, rX3_closeLine_2, c1, true_and]
    rw [c_hasLine g r hl, if_pos (inR_lt hk (by omega))]
    simp only [tl_some, rX3_closeLine_5, rX3_closeLine_8, rX3_closeLine_9, rX3_closeLine_10, rX3_closeLine_13, rX3_closeLine_14, rX3_closeLine_15, rX3_closeLine_16, rX3_closeLine_17, c1, c2, c6, true_and, true_or, rf_some, vin_nI (show k < 10 by omega) (by decide), nI_clamp (show k < 2 ^ 31 by omega), hkk.1]
    rw [if_pos (by decide), f3]
    simp only [rX3_closeLine_48, rX3_closeLine_49, rX3_closeLine_50, rX3_closeLine_53, rX3_closeLine_54, rX3_closeLine_55, rX3_closeLine_58, rX3_closeLine_59, rX3_closeLine_62, rX3_closeLine_63, rX3_closeLine_66, rX3_closeLine_67, rX3_closeLine_68, d1, d2, d6, true_and, true_or, rf_some, r, e1, u2_same, vin_nI (show ls.length - 1 < 10 by omega) (by decide), nI_clamp (show ls.length - 1 < 2 ^ 31 by omega), show clOf (21 - 20) = 2 from rfl, hln.1]
end PG2
