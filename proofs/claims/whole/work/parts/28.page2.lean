section PG2
variable {w : WS} {I : Nat → Nat → Int32} {Q : Nat → Nat → Option Nat} {J : Nat → Nat → Int64} {K : Option Value → WS → HS → Prop} {π : Nat → Nat} {ls : List (List Int32)} {W : List (List Int32)}
/-- what must hold ahead of painting anew from a line on -/
def preRp (I : Nat → Nat → Int32) (π : Nat → Nat) (W ls : List (List Int32)) (nw : Nat → Bool) (E : Nat → List Nat × Nat) (first last : Nat) : Prop :=
  (∀ j, j < first → pdIs I π W ls j) ∧ (∀ j, first ≤ j → j < ls.length → I (6 + 7 * π j) 4 = (if nw j then 1 else 0) ∧ (nw j = false → stIs I (6 + 7 * π j + 5) (6 + 7 * π j + 6) (E j))) ∧ (∀ j, first ≤ j → last ≤ j → j + 1 < ls.length → nw j = false → nw (j + 1) = false ∧ ptIs I (6 + 7 * π (j + 1)) (lineP W (ls.getD (j + 1) []) (E j)).1 ∧ E (j + 1) = (lineP W (ls.getD (j + 1) []) (E j)).2)
def anewN (W ls : List (List Int32)) (nw : Nat → Bool) (E : Nat → List Nat × Nat) (first last : Nat) : Nat := anewP (fun j => !nw j && decide (stAt W ls (j + 1) = E j)) last (ls.length - first) first
theorem c_repaint (g : gOK w Q) (hp : piOK Q π) (hl : lsV ls) (hW : wdV W) (nw : Nat → Bool) (E : Nat → List Nat × Nat) (hE : ∀ k, stV (E k)) {first last : Nat} (hla : last ≤ 10) (hfi : first ≤ ls.length) (r : pgIs I π ls) (rw0 : wdIs I 76 78 W) (pre : preRp I π W ls nw E first last) : ∃ I', (∀ j, j < ls.length → pdIs I' π W ls j) ∧ Fr inkS I I' ∧ ∀ K, (WP mX3_repaint 0 [.ref 4, .int (nI first), .int (nI last), .null, .null, .null, .null] [] w (I, Q, J) K ↔ K (some (.int (nI (anewN W ls nw E first last)))) w (I', Q, J)) := by
  obtain ⟨-, -, ⟨c1, c2, c3, c4, c5, c6⟩, lns, pn, -⟩ := id g
  obtain ⟨p1, p2, p3⟩ := pre
  have hl10 := hl.1
  -- what stands open ahead of the first line
  have start : ∃ I1, stIs I1 90 91 (stAt W ls first) ∧ Fr (fun c => c = 90 ∨ c = 91) I I1 ∧ ∀ K, (WP mX3_repaint 0 [.ref 4, .int (nI first), .int (nI last), .null, .null, .null, .null] [] w (I, Q, J) K ↔ WP mX3_repaint 44 [.ref 4, .int (nI first), .int (nI last), .null, .null, .null, .null] [] w (I1, Q, J) K) := by
    by_cases h0 : first = 0
    · subst h0
      obtain ⟨I1, g1, g2, g3⟩ := c_stBegin (I := I) (J := J) pn.2.2.2.1
      refine ⟨I1, g1, g2, fun K => ?_⟩
      simp only [rX3_repaint_0, rX3_repaint_1, rX3_repaint_2, rX3_repaint_3, rX3_repaint_4, c1, true_and]
      rw [c_hasLine g r.1 hl.1, if_neg (show ¬ inR (nI 0 - 1) ls.length from fun z => z.1 (by decide))]
      simp only [tl_some, rX3_repaint_7, rX3_repaint_10, rX3_repaint_11, rX3_repaint_14, rX3_repaint_17, rX3_repaint_18, rX3_repaint_21, rX3_repaint_22, rX3_repaint_23, rX3_repaint_24, rX3_repaint_25, rX3_repaint_28, rX3_repaint_31, rX3_repaint_34, rX3_repaint_35, rX3_repaint_38, rX3_repaint_41, if_true, c1, c5, rf_some, pn.1, pn.2.2.1, pn.2.2.2.1.1, true_and]
      rw [g3]
      simp only [tl_none]
    · have e1 : nI first - 1 = nI (first - 1) := pk_sub (show 1 ≤ first by omega)
      have hk10 : first - 1 < 10 := by omega
      have ok := lns (π (first - 1)) (hp.1 _ hk10).2
      have hpd := p1 (first - 1) (by omega)
      have hst := hpd.2.1
      rw [show first - 1 + 1 = first by omega] at hst
      have hpi := (hp.1 _ hk10).2
      obtain ⟨I1, g1, g2, g3⟩ := c_stCopy (I := I) (J := J) pn.2.2.2.1 ok.2.2.2.2.2.2.2.2 hst (stAt_ok W ls first).2.1 (by omega)
      refine ⟨I1, g1, g2, fun K => ?_⟩
      simp only [rX3_repaint_0, rX3_repaint_1, rX3_repaint_2, rX3_repaint_3, rX3_repaint_4, c1, true_and, e1]
      rw [c_hasLine g r.1 hl.1, if_pos (inR_lt (show first - 1 < ls.length by omega) (by omega))]
      simp only [tl_some, rX3_repaint_7, rX3_repaint_10, rX3_repaint_11, rX3_repaint_14, rX3_repaint_17, rX3_repaint_18, rX3_repaint_21, rX3_repaint_22, rX3_repaint_23, rX3_repaint_24, rX3_repaint_25, rX3_repaint_28, rX3_repaint_31, c1, c2, c5, c6, rf_some, pn.1, pn.2.2.1, pn.2.2.2.1.1, true_and, true_or, e1, vin_nI hk10 (by decide), nI_clamp (show first - 1 < 2 ^ 31 by omega), (hp.1 _ hk10).1, ok.1, ok.2.2.2.2.1]
      rw [if_neg (by decide), g3]
      simp only [tl_none, rX3_repaint_7, rX3_repaint_10, rX3_repaint_11, rX3_repaint_14, rX3_repaint_17, rX3_repaint_18, rX3_repaint_21, rX3_repaint_22, rX3_repaint_23, rX3_repaint_24, rX3_repaint_25, rX3_repaint_28, rX3_repaint_31]
  obtain ⟨I1, s1, s2, s3⟩ := start
  have e : ∀ z, z ≠ 90 → z ≠ 91 → I1 z = I z := fun z q1 q2 => s2 z (by omega)
  have e7 : ∀ j, j < ls.length → ∀ c, 6 + 7 * π j ≤ c → c < 6 + 7 * π j + 7 → I1 c = I c := fun j hj c q1 q2 => by
    have := (hp.1 j (by omega)).2
    exact e c (by omega) (by omega)
  have r1 : pgIs I1 π ls := ⟨by rw [e 4 (by omega) (by omega)]; exact r.1, fun j hj => (r.2 j hj).fr (e7 j hj _ (by omega) (by omega)) (e7 j hj _ (by omega) (by omega))⟩
  obtain ⟨I', q1, q2, q3⟩ := c_repaint_loop (J := J) (x1 := nI first) g hp hl hW nw E hE hla (ls.length - first) first I1 0 .null .null (by omega) (Nat.zero_le _) r1 (rw0.fr hW.1 (e 76 (by omega) (by omega)) (fun c h1 h2 => e c (by omega) (by omega))) s1 (fun j hj => (p1 j hj).fr (e7 j (by omega))) (fun j h1 h2 => ⟨by rw [e7 j h2 _ (by omega) (by omega)]; exact (p2 j h1 h2).1, fun z => ((p2 j h1 h2).2 z).fr (e7 j h2 _ (by omega) (by omega)) (e7 j h2 _ (by omega) (by omega))⟩) (fun j h1 h2 h3 h4 => by
    obtain ⟨m1, m2, m3⟩ := p3 j h1 h2 h3 h4
    exact ⟨m1, m2.fr (e7 _ h3 _ (by omega) (by omega)) (e7 _ h3 _ (by omega) (by omega)), m3⟩)
  refine ⟨I', q1, Fr.tr s2 q2 (fun c z => by omega) (fun c z => z), fun K => ?_⟩
  have em : (if (0 : Int32) < nI first then nI first else 0) = nI first := by
    by_cases h0 : first = 0
    · subst h0; rfl
    · rw [if_pos (show (0 : Int32) < nI first from nI_lt (a := 0) (by omega) (by omega))]
  rw [s3]
  simp only [rX3_repaint_44, rX3_repaint_45, rX3_repaint_46, rX3_repaint_47, rX3_repaint_48, rX3_repaint_51, em]
  have := q3 K
  rw [nI_0, Nat.zero_add] at this
  exact this
end PG2
