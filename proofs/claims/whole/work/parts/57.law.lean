/-! ===== the law: a call of both a step ===== -/
section LW
variable {w : WS} {I : Nat → Nat → Int32} {Q : Nat → Nat → Option Nat} {J : Nat → Nat → Int64} {S : SP}
theorem nI_addk1 (a : Nat) : nI a + 1 = nI (a + 1) := nI_add a 1
theorem nI_addk2 (a : Nat) : nI a + 2 = nI (a + 2) := nI_add a 2
theorem nI_addk3 (a : Nat) : nI a + 3 = nI (a + 3) := nI_add a 3
theorem MS.cls {I1 : Nat → Nat → Int32} {Q1 : Nat → Nat → Option Nat} (ms : MS w I Q S) (f : Fr (fun c => 1 ≤ c ∧ c < 270) I I1) (q : ∀ c, c ≠ 5 → Q1 c = Q c) : MS w I1 Q1 S := by
  obtain ⟨⟨o, oq, ow⟩, c2, c3, c4, c5, c6, c7⟩ := ms
  have e : ∀ c, 270 ≤ c → I1 c = I c := fun c hc => f c (by omega)
  exact ⟨⟨o, by rw [q 270 (by decide)]; exact oq, ow⟩, by rw [e 271 (by decide)]; exact c2, ⟨by rw [e 270 (by decide)]; exact c3.1, by rw [e 272 (by decide)]; exact c3.2⟩, by rw [e 273 (by decide)]; exact c4, ⟨by rw [e 270 (by decide)]; exact c5.1, by rw [e 274 (by decide)]; exact c5.2⟩, by rw [e 270 (by decide)]; exact c6, fun k hk => (c7 k hk).fr (e 275 (by decide)) (e 276 (by decide)) (e 277 (by decide))⟩
theorem CS.mdl {I2 : Nat → Nat → Int32} (cs : CS w I Q S) (f : Fr (fun c => 270 ≤ c ∧ c < 280) I I2) : CS w I2 Q S := by
  obtain ⟨g, hv, π, nx, hp, r1, r2, r3, r4, r5, r6, r7, r8, r9⟩ := cs
  have e : ∀ c, c < 270 → I2 c = I c := fun c hc => f c (by omega)
  have h10 := hv.2.1.1.1
  have hpl : ∀ k, k < S.2.1.1.length → π k < 10 := fun k hk => (hp.1 k (by omega)).2
  exact ⟨g, hv, π, nx, hp, r1.fr (e _ (by omega)) (e _ (by omega)), ⟨by rw [e 4 (by omega)]; exact r2.1, fun k hk => (r2.2 k hk).fr (e _ (by have := hpl k hk; omega)) (e _ (by have := hpl k hk; omega))⟩, r3.fr hv.2.1.2.1.1 (e _ (by omega)) (fun c _ _ => e c (by omega)), r4.fr (e _ (by omega)) (e _ (by omega)) (e _ (by omega)), ⟨by rw [e 92 (by omega)]; exact r5.1, by rw [e 92 (by omega)]; exact r5.2.1, r5.2.2.1, fun d hd => (r5.2.2.2 d hd).fr (hv.2.2.1.2 d hd) (fun c _ _ => e c (by omega))⟩, by rw [e 1 (by omega)]; exact r6, by rw [e 269 (by omega)]; exact r7, fun k hk => (r8 k hk).fr (fun c _ _ => e c (by have := hpl k hk; omega)), r9.fr (fun c _ _ => e c (by omega))⟩
/-- one call of both, told the same: the loop goes on -/
def LwS (w : WS) (I : Nat → Nat → Int32) (Q : Nat → Nat → Option Nat) (J : Nat → Nat → Int64) (pc i : Nat) (S' : SP) : Prop := ∃ (I2 : Nat → Nat → Int32) (Q2 : Nat → Nat → Option Nat), CS w I2 Q2 S' ∧ MS w I2 Q2 S' ∧ I2 0 = I 0 ∧ ∀ K, (WP mL_law pc [.ref 0, .ref 1, .ref 270, .int (nI i)] [] w (I, Q, J) K ↔ WP mL_law 622 [.ref 0, .ref 1, .ref 270, .int (nI i)] [] w (I2, Q2, J) K)
theorem L_type {i L : Nat} (hL : L ≤ 2048) (hs : w.1 0 = (20, L)) (hi : i + 4 ≤ L) (cs : CS w I Q S) (ms : MS w I Q S) : LwS w I Q J 124 i (sp_type (I 0 (i + 1)) S).2 := by
  obtain ⟨I1, Q1, d1, d2, d3, d4⟩ := C_type (J := J) (c := I 0 (i + 1)) cs
  have e0 : I1 0 = I 0 := d2 0 (by omega)
  obtain ⟨I2, m1, m2, m4⟩ := N_type (J := J) (c := I 0 (i + 1)) (ms.cls d2 d3) cs.2.1
  refine ⟨I2, Q1, d1.mdl m2, m1, (m2 0 (by omega)).trans e0, fun K => ?_⟩
  simp only [rL_law_124, rL_law_125, rL_law_126, rL_law_127, rL_law_128, rL_law_129, rL_law_130, hs, cs.1.1.1, true_and, nI_addk1, vin_nI (show i + 1 < L by omega) (by omega), nI_clamp (show i + 1 < 2 ^ 31 by omega)]
  rw [d4]
  simp only [tl_some, List.cons_append, List.nil_append, rL_law_133, rL_law_134, rL_law_135, rL_law_136, rL_law_137, rL_law_138, rL_law_139, hs, e0, ms.1.1, true_and, nI_addk1, vin_nI (show i + 1 < L by omega) (by omega), nI_clamp (show i + 1 < 2 ^ 31 by omega)]
  rw [m4]
  simp only [tl_some, List.cons_append, List.nil_append, rL_law_142, if_true]
theorem L_clear {i L : Nat} (hL : L ≤ 2048) (hs : w.1 0 = (20, L)) (hi : i + 4 ≤ L) (cs : CS w I Q S) (ms : MS w I Q S) : LwS w I Q J 147 i (sp_clear S).2 := by
  obtain ⟨I1, Q1, d1, d2, d3, d4⟩ := C_clear (J := J)  cs
  have e0 : I1 0 = I 0 := d2 0 (by omega)
  obtain ⟨I2, m1, m2, m4⟩ := N_clear (J := J)  (ms.cls d2 d3) 
  refine ⟨I2, Q1, d1.mdl m2, m1, (m2 0 (by omega)).trans e0, fun K => ?_⟩
  simp only [rL_law_147, rL_law_148, hs, cs.1.1.1, true_and]
  rw [d4]
  simp only [tl_some, List.cons_append, List.nil_append, rL_law_151, rL_law_152, hs, e0, ms.1.1, true_and]
  rw [m4]
  simp only [tl_some, List.cons_append, List.nil_append, rL_law_155, if_true]
end LW
