section C9
variable {w : WS} {I : Nat → Nat → Int32} {Q : Nat → Nat → Option Nat} {J : Nat → Nat → Int64} {S : SP}
/-- as CA, from a place of the method on -/
def CL (w : WS) (I : Nat → Nat → Int32) (Q : Nat → Nat → Option Nat) (J : Nat → Nat → Int64) (m : ME) (pc : Nat) (as st : List Value) (r : Value) (S' : SP) : Prop := ∃ (I' : Nat → Nat → Int32) (Q' : Nat → Nat → Option Nat), CS w I' Q' S' ∧ Fr (fun c => 1 ≤ c ∧ c < 270) I I' ∧ (∀ c, c ≠ 5 → Q' c = Q c) ∧ ∀ K, (WP m pc as st w (I, Q, J) K ↔ K (some r) w (I', Q', J))
theorem CL.step {I1 : Nat → Nat → Int32} {Q1 : Nat → Nat → Option Nat} {m : ME} {pc pc' : Nat} {as as' st st' : List Value} {r : Value} {S' : SP} (h : CL w I1 Q1 J m pc' as' st' r S') (f : Fr (fun c => 1 ≤ c ∧ c < 270) I I1) (q : ∀ c, c ≠ 5 → Q1 c = Q c) (e : ∀ K, (WP m pc as st w (I, Q, J) K ↔ WP m pc' as' st' w (I1, Q1, J) K)) : CL w I Q J m pc as st r S' := by
  obtain ⟨I', Q', h1, h2, h3, h4⟩ := h
  exact ⟨I', Q', h1, f.tr h2 (fun _ z => z) (fun _ z => z), fun c hc => (h3 c hc).trans (q c hc), fun K => (e K).trans (h4 K)⟩
theorem CL.same {m : ME} {pc pc' : Nat} {as as' st st' : List Value} {r : Value} {S' : SP} (h : CL w I Q J m pc' as' st' r S') (e : ∀ K, (WP m pc as st w (I, Q, J) K ↔ WP m pc' as' st' w (I, Q, J) K)) : CL w I Q J m pc as st r S' := h.step Fr.rf (fun _ _ => rfl) e
theorem at_in {k i x : Nat} (hv : SV S) (hk : k < S.2.1.1.length) (hi : i < (S.2.1.1.getD k []).length) (hx : x < 3) : sp_at (nI k) (nI i) (nI x) S = (atV S k i x, S) := by
  have h1 := hv.2.1.1.1
  have h2 := hv.2.1.1.2 k hk
  unfold sp_at
  rw [nI_clamp (show k < 2 ^ 31 by omega), nI_clamp (show i < 2 ^ 31 by omega), nI_clamp (show x < 2 ^ 31 by omega), if_neg (fun z => z ⟨inR_lt hk (by omega), inR_lt hi (by omega), inR_lt hx (by decide)⟩)]
theorem of_in {k x : Nat} (hv : SV S) (hk : k < S.2.1.1.length) (hx : x < 6) : sp_of (nI k) (nI x) S = (ofV S k x, S) := by
  have h1 := hv.2.1.1.1
  unfold sp_of
  rw [nI_clamp (show k < 2 ^ 31 by omega), nI_clamp (show x < 2 ^ 31 by omega), if_neg (fun z => z ⟨inR_lt hk (by omega), inR_lt hx (by decide)⟩)]
theorem told_in {x : Nat} (hx : x < 8) : sp_told (nI x) S = (toldV S x, S) := by
  unfold sp_told
  rw [nI_clamp (show x < 2 ^ 31 by omega), if_neg (fun z => z (inR_lt hx (by decide)))]
theorem dl_at {j0 : Int64} {k i : Nat} {r : Value} (hk : k < S.2.1.1.length) (hi : i < (S.2.1.1.getD k []).length) : ∀ n x (h : Int64) (I : Nat → Nat → Int32) (Q : Nat → Nat → Option Nat), n + x = 3 → CS w I Q S → (∀ I Q, CS w I Q S → CL w I Q J mX9_digestLine 92 [.ref 1, .long j0, .null, .int (nI k), .long (mixF (atV S k i) n x h), .null, .int (nI i), .int (nI 3)] [] r S) → CL w I Q J mX9_digestLine 61 [.ref 1, .long j0, .null, .int (nI k), .long h, .null, .int (nI i), .int (nI x)] [] r S := by
  intro n
  induction n with
  | zero =>
    intro x h I Q hx cs c
    have hx3 : x = 3 := by omega
    subst hx3
    refine (c I Q cs).same (fun K => ?_)
    rw [rX9_digestLine_61]
    simp only [rX9_digestLine_63, rX9_digestLine_64]
    rw [if_pos (show (2 : Int32) < nI 3 by decide)]
    rfl
  | succ n ih =>
    intro x h I Q hx cs c
    obtain ⟨I1, Q1, d1, d2, d3, d4⟩ := C_at (J := J) (k := nI k) (i := nI i) (x := nI x) cs
    rw [at_in cs.2.1 hk hi (by omega)] at d1 d4
    refine (ih (x + 1) (31 * h + (atV S k i x).toInt64) I1 Q1 (by omega) d1 c).step d2 d3 (fun K => ?_)
    rw [rX9_digestLine_61]
    simp only [rX9_digestLine_63, rX9_digestLine_64, rX9_digestLine_67, rX9_digestLine_70, rX9_digestLine_72, rX9_digestLine_73, rX9_digestLine_74, rX9_digestLine_75, rX9_digestLine_77, rX9_digestLine_79, cs.1.1.1, true_and]
    rw [if_neg (show ¬ (2 : Int32) < nI x from nI_nlt (show x ≤ 2 by omega) (by decide)), d4]
    simp only [tl_some, List.singleton_append, List.cons_append, List.nil_append, rX9_digestLine_82, rX9_digestLine_83, rX9_digestLine_84, rX9_digestLine_86, rX9_digestLine_89, nI_1]
theorem dl_by {j0 : Int64} {k : Nat} {r : Value} (hk : k < S.2.1.1.length) : ∀ n i (h : Int64) (I : Nat → Nat → Int32) (Q : Nat → Nat → Option Nat) (v7 : Value), n + i = (S.2.1.1.getD k []).length → CS w I Q S → r = .long (digB S k n i h) → CL w I Q J mX9_digestLine 38 [.ref 1, .long j0, .null, .int (nI k), .long h, .null, .int (nI i), v7] [] r S := by
  intro n
  induction n with
  | zero =>
    intro i h I Q v7 hi cs hr
    obtain ⟨g, hv, π, nx, hp, rc⟩ := id cs
    obtain ⟨⟨a1, a2, a3, a4, a5⟩, b1, ⟨c1, c2, c3, c4, c5, c6⟩, lns, -⟩ := id g
    have h10 := hv.2.1.1.1
    have h30 := hv.2.1.1.2 k hk
    have hpk := hp.1 k (by omega)
    have lk := lns (π k) hpk.2
    subst hr
    refine ⟨I, Q, cs, Fr.rf, fun _ _ => rfl, fun K => ?_⟩
    rw [rX9_digestLine_38]
    simp only [rX9_digestLine_40, rX9_digestLine_41, rX9_digestLine_44, rX9_digestLine_47, rX9_digestLine_48, rX9_digestLine_49, rX9_digestLine_52, rX9_digestLine_55, rX9_digestLine_98, rX9_digestLine_100, a1, a3, c1, c2, c6, rf_some, true_and, true_or, vin_nI (show k < 10 by omega) (by decide), nI_clamp (show k < 2 ^ 31 by omega), hpk.1, lk.1, lk.2.1, lk.2.2.2.2.2.1.1, (rc.2.1.2 k hk).1]
    rw [if_pos (nI_le (show (S.2.1.1.getD k []).length ≤ i by omega) (by omega))]
    rfl
  | succ n ih =>
    intro i h I Q v7 hi cs hr
    obtain ⟨g, hv, π, nx, hp, rc⟩ := id cs
    obtain ⟨⟨a1, a2, a3, a4, a5⟩, b1, ⟨c1, c2, c3, c4, c5, c6⟩, lns, -⟩ := id g
    have h10 := hv.2.1.1.1
    have h30 := hv.2.1.1.2 k hk
    have hpk := hp.1 k (by omega)
    have lk := lns (π k) hpk.2
    refine (dl_at (J := J) (j0 := j0) (r := r) hk (show i < (S.2.1.1.getD k []).length by omega) 3 0 h I Q rfl cs (fun I Q cs => ?_)).same (fun K => ?_)
    · refine (ih (i + 1) (mixF (atV S k i) 3 0 h) I Q (.int (nI 3)) (by omega) cs ?_).same (fun K => ?_)
      · exact hr
      · simp only [rX9_digestLine_92, rX9_digestLine_95, nI_1]
    · rw [rX9_digestLine_38]
      simp only [rX9_digestLine_40, rX9_digestLine_41, rX9_digestLine_44, rX9_digestLine_47, rX9_digestLine_48, rX9_digestLine_49, rX9_digestLine_52, rX9_digestLine_55, rX9_digestLine_58, rX9_digestLine_59, a1, a3, c1, c2, c6, rf_some, true_and, true_or, vin_nI (show k < 10 by omega) (by decide), nI_clamp (show k < 2 ^ 31 by omega), hpk.1, lk.1, lk.2.1, lk.2.2.2.2.2.1.1, (rc.2.1.2 k hk).1]
      rw [if_neg (nI_ge (show i < (S.2.1.1.getD k []).length by omega) (by omega))]
      rfl
theorem dl_of {j0 : Int64} {k : Nat} {r : Value} (hk : k < S.2.1.1.length) : ∀ n x (h : Int64) (I : Nat → Nat → Int32) (Q : Nat → Nat → Option Nat) (v7 : Value), n + x = 6 → CS w I Q S → r = .long (digB S k (S.2.1.1.getD k []).length 0 (mixF (ofV S k) n x h)) → CL w I Q J mX9_digestLine 6 [.ref 1, .long j0, .null, .int (nI k), .long h, .null, .int (nI x), v7] [] r S := by
  intro n
  induction n with
  | zero =>
    intro x h I Q v7 hx cs hr
    have hx6 : x = 6 := by omega
    subst hx6
    refine (dl_by (J := J) (j0 := j0) hk (S.2.1.1.getD k []).length 0 h I Q v7 rfl cs hr).same (fun K => ?_)
    rw [rX9_digestLine_6]
    simp only [rX9_digestLine_8, rX9_digestLine_9, rX9_digestLine_35, rX9_digestLine_36]
    rw [if_pos (show (5 : Int32) < nI 6 by decide)]
    rfl
  | succ n ih =>
    intro x h I Q v7 hx cs hr
    obtain ⟨I1, Q1, d1, d2, d3, d4⟩ := C_of (J := J) (k := nI k) (x := nI x) cs
    rw [of_in cs.2.1 hk (by omega)] at d1 d4
    refine (ih (x + 1) (31 * h + (ofV S k x).toInt64) I1 Q1 v7 (by omega) d1 hr).step d2 d3 (fun K => ?_)
    rw [rX9_digestLine_6]
    simp only [rX9_digestLine_8, rX9_digestLine_9, rX9_digestLine_12, rX9_digestLine_15, rX9_digestLine_17, rX9_digestLine_18, rX9_digestLine_19, rX9_digestLine_20, rX9_digestLine_22, cs.1.1.1, true_and]
    rw [if_neg (show ¬ (5 : Int32) < nI x from nI_nlt (show x ≤ 5 by omega) (by decide)), d4]
    simp only [tl_some, List.singleton_append, List.cons_append, List.nil_append, rX9_digestLine_25, rX9_digestLine_26, rX9_digestLine_27, rX9_digestLine_29, rX9_digestLine_32, nI_1]
theorem C_digestLine {h : Int64} {k : Nat} (cs : CS w I Q S) (hk : k < S.2.1.1.length) : CL w I Q J mX9_digestLine 0 [.ref 1, .long h, .null, .int (nI k), .null, .null, .null, .null] [] (.long (digB S k (S.2.1.1.getD k []).length 0 (mixF (ofV S k) 6 0 h))) S := by
  refine (dl_of (J := J) (j0 := h) hk 6 0 h I Q .null rfl cs rfl).same (fun K => ?_)
  simp only [rX9_digestLine_0, rX9_digestLine_1, rX9_digestLine_3, rX9_digestLine_4]
  rfl
theorem dg_ln {r : Value} : ∀ n k (h : Int64) (I : Nat → Nat → Int32) (Q : Nat → Nat → Option Nat), n + k = S.2.1.1.length → CS w I Q S → r = .long (digL S n k h) → CL w I Q J mX9_digest 45 [.ref 1, .long h, .null, .int (nI k)] [] r S := by
  intro n
  induction n with
  | zero =>
    intro k h I Q hk cs hr
    have h10 := cs.2.1.2.1.1.1
    obtain ⟨g, hv, π, nx, hp, rc⟩ := id cs
    subst hr
    refine ⟨I, Q, cs, Fr.rf, fun _ _ => rfl, fun K => ?_⟩
    rw [rX9_digest_45]
    simp only [rX9_digest_46, rX9_digest_47, rX9_digest_50, rX9_digest_53, rX9_digest_69, rX9_digest_70, g.1.1, g.1.2.2.1, g.2.2.1.1, rc.2.1.1, rf_some, true_and]
    rw [if_pos (nI_le (show S.2.1.1.length ≤ k by omega) (by omega))]
    rfl
  | succ n ih =>
    intro k h I Q hk cs hr
    have h10 := cs.2.1.2.1.1.1
    obtain ⟨g, hv, π, nx, hp, rc⟩ := id cs
    obtain ⟨I1, Q1, d1, d2, d3, d4⟩ := C_digestLine (J := J) (h := h) cs (show k < S.2.1.1.length by omega)
    refine (ih (k + 1) _ I1 Q1 (by omega) d1 hr).step d2 d3 (fun K => ?_)
    rw [rX9_digest_45]
    simp only [rX9_digest_46, rX9_digest_47, rX9_digest_50, rX9_digest_53, rX9_digest_56, rX9_digest_57, rX9_digest_58, rX9_digest_59, g.1.1, g.1.2.2.1, g.2.2.1.1, rc.2.1.1, rf_some, true_and]
    rw [if_neg (nI_ge (show k < S.2.1.1.length by omega) (by omega)), d4]
    simp only [tl_some, rX9_digest_62, rX9_digest_63, rX9_digest_66, nI_1]
theorem dg_told {r : Value} : ∀ n x (h : Int64) (I : Nat → Nat → Int32) (Q : Nat → Nat → Option Nat), n + x = 8 → CS w I Q S → r = .long (digL S S.2.1.1.length 0 (31 * mixF (toldV S) n x h + (nI S.2.2.2.1).toInt64)) → CL w I Q J mX9_digest 6 [.ref 1, .long h, .null, .int (nI x)] [] r S := by
  intro n
  induction n with
  | zero =>
    intro x h I Q hx cs hr
    have hx8 : x = 8 := by omega
    subst hx8
    obtain ⟨g, hv, π, nx, hp, rc⟩ := id cs
    refine (dg_ln (J := J) S.2.1.1.length 0 (31 * h + (nI S.2.2.2.1).toInt64) I Q rfl cs hr).same (fun K => ?_)
    rw [rX9_digest_6]
    simp only [rX9_digest_7, rX9_digest_9, rX9_digest_31, rX9_digest_34, rX9_digest_35, rX9_digest_36, rX9_digest_37, rX9_digest_40, rX9_digest_41, rX9_digest_42, rX9_digest_43, rX9_digest_44, g.1.1, rc.2.2.2.2.2.1, true_and]
    rw [if_pos (show (7 : Int32) < nI 8 by decide)]
    rfl
  | succ n ih =>
    intro x h I Q hx cs hr
    obtain ⟨I1, Q1, d1, d2, d3, d4⟩ := C_told (J := J) (x := nI x) cs
    rw [told_in (by omega)] at d1 d4
    refine (ih (x + 1) (31 * h + (toldV S x).toInt64) I1 Q1 (by omega) d1 hr).step d2 d3 (fun K => ?_)
    rw [rX9_digest_6]
    simp only [rX9_digest_7, rX9_digest_9, rX9_digest_12, rX9_digest_15, rX9_digest_16, rX9_digest_17, rX9_digest_18, rX9_digest_19, cs.1.1.1, true_and]
    rw [if_neg (show ¬ (7 : Int32) < nI x from nI_nlt (show x ≤ 7 by omega) (by decide)), d4]
    simp only [tl_some, List.singleton_append, List.cons_append, List.nil_append, rX9_digest_22, rX9_digest_23, rX9_digest_24, rX9_digest_25, rX9_digest_28, nI_1]
theorem C_digest (cs : CS w I Q S) : CA w I Q J mX9_digest [.ref 1, .null, .null, .null] (.long (sp_digest S)) S := by
  refine (dg_told (J := J) 8 0 2543 I Q rfl cs rfl).same (fun K => ?_)
  simp only [rX9_digest_0, rX9_digest_3, rX9_digest_4, rX9_digest_5]
  rfl
end C9
