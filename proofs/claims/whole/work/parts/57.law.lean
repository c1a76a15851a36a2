/-! ===== the law: a call of both a step ===== -/
section LW
variable {w : WS} {I : Nat → Nat → Int32} {Q : Nat → Nat → Option Nat} {J : Nat → Nat → Int64} {S : SP}
theorem nI_addk1 (a : Nat) : nI a + 1 = nI (a + 1) := nI_add a 1
theorem nI_addk2 (a : Nat) : nI a + 2 = nI (a + 2) := nI_add a 2
theorem nI_addk3 (a : Nat) : nI a + 3 = nI (a + 3) := nI_add a 3
theorem MS.cls {I1 : Nat → Nat → Int32} {Q1 : Nat → Nat → Option Nat} (ms : MS w I Q S) (f : Fr (fun c => 1 ≤ c ∧ c < 270) I I1) (q : ∀ c, c ≠ 5 → Q1 c = Q c) : MS w I1 Q1 S := by
  obtain ⟨⟨o, oq, ow⟩, c2, c3, c4, c5, c6, c7⟩ := ms
  have e : ∀ c, 270 ≤ c → I1 c = I c := fun c hc => f c (by omega)
  exact ⟨⟨o, by rw [q 270 (by decide)]; exact oq, ow⟩, by rw [e 271 (by decide)]; exact c2, ⟨by rw [e 270 (by decide)]; exact c3.1, by rw [e 272 (by decide)]; exact c3.2⟩, by rw [e 273 (by decide)]; exact c4, ⟨by rw [e 270 (by decide)]; exact c5.1, by rw [e 274 (by decide)]; exact c5.2⟩, by rw [e 270 (by decide)]; exact c6, fun k hk => (c7 k hk).fr (e 275 (by decide)) (e 276 (by decide)) (e 277 (by decide))⟩
theorem CS.mdl {I2 : Nat → Nat → Int32} (cs : CS w I Q S) (f : Fr (fun c => 270 ≤ c ∧ c < 280) I I2) : CS w I2 Q S := by
  obtain ⟨g, hv, π, nx, hp, r1, r2, r3, r4, r5, r6, r7, r8, r9⟩ := cs
  have e : ∀ c, c < 270 → I2 c = I c := fun c hc => f c (by omega)
  have h10 := hv.2.1.1.1
  have hpl : ∀ k, k < S.2.1.1.length → π k < 10 := fun k hk => (hp.1 k (by omega)).2
  exact ⟨g, hv, π, nx, hp, r1.fr (e _ (by omega)) (e _ (by omega)), ⟨by rw [e 4 (by omega)]; exact r2.1, fun k hk => (r2.2 k hk).fr (e _ (by have := hpl k hk; omega)) (e _ (by have := hpl k hk; omega))⟩, r3.fr hv.2.1.2.1.1 (e _ (by omega)) (fun c _ _ => e c (by omega)), r4.fr (e _ (by omega)) (e _ (by omega)) (e _ (by omega)), ⟨by rw [e 92 (by omega)]; exact r5.1, by rw [e 92 (by omega)]; exact r5.2.1, r5.2.2.1, fun d hd => (r5.2.2.2 d hd).fr (hv.2.2.1.2 d hd) (fun c _ _ => e c (by omega))⟩, by rw [e 1 (by omega)]; exact r6, by rw [e 269 (by omega)]; exact r7, fun k hk => (r8 k hk).fr (fun c _ _ => e c (by have := hpl k hk; omega)), r9.fr (fun c _ _ => e c (by omega))⟩
/-- one call of both, told the same: the loop goes on -/
def LwS (w : WS) (I : Nat → Nat → Int32) (Q : Nat → Nat → Option Nat) (J : Nat → Nat → Int64) (pc i : Nat) (S' : SP) : Prop := ∃ (I2 : Nat → Nat → Int32) (Q2 : Nat → Nat → Option Nat), CS w I2 Q2 S' ∧ MS w I2 Q2 S' ∧ I2 0 = I 0 ∧ ∀ K, (WP mL_law pc [.ref 0, .ref 1, .ref 270, .int (nI i)] [] w (I, Q, J) K ↔ WP mL_law 622 [.ref 0, .ref 1, .ref 270, .int (nI i)] [] w (I2, Q2, J) K)
theorem L_type {i L : Nat} (hL : L ≤ 2048) (hs : w.1 0 = (20, L)) (hi : i + 4 ≤ L) (cs : CS w I Q S) (ms : MS w I Q S) : LwS w I Q J 124 i (sp_type (I 0 (i + 1)) S).2 := by
  obtain ⟨I1, Q1, d1, d2, d3, d4⟩ := C_type (J := J) (c := I 0 (i + 1)) cs
  have e0 : I1 0 = I 0 := d2 0 (by omega)
  obtain ⟨I2, m1, m2, m4⟩ := N_type (J := J) (c := I 0 (i + 1)) (ms.cls d2 d3) cs.2.1
  refine ⟨I2, Q1, d1.mdl m2, m1, (m2 0 (by omega)).trans e0, fun K => ?_⟩
  simp only [rL_law_124, rL_law_125, rL_law_126, rL_law_127, rL_law_128, rL_law_129, rL_law_130, hs, cs.1.1.1, true_and, nI_addk1, vin_nI (show i + 1 < L by omega) (by omega), nI_clamp (show i + 1 < 2 ^ 31 by omega)]
  rw [d4]
  simp only [tl_some, List.cons_append, List.nil_append, rL_law_133, rL_law_134, rL_law_135, rL_law_136, rL_law_137, rL_law_138, rL_law_139, hs, e0, ms.1.1, true_and, nI_addk1, vin_nI (show i + 1 < L by omega) (by omega), nI_clamp (show i + 1 < 2 ^ 31 by omega)]
  rw [m4]
  simp only [tl_some, List.cons_append, List.nil_append, rL_law_142, if_true]
theorem L_clear {i L : Nat} (hL : L ≤ 2048) (hs : w.1 0 = (20, L)) (hi : i + 4 ≤ L) (cs : CS w I Q S) (ms : MS w I Q S) : LwS w I Q J 147 i (sp_clear S).2 := by
  obtain ⟨I1, Q1, d1, d2, d3, d4⟩ := C_clear (J := J)  cs
  have e0 : I1 0 = I 0 := d2 0 (by omega)
  obtain ⟨I2, m1, m2, m4⟩ := N_clear (J := J)  (ms.cls d2 d3) 
  refine ⟨I2, Q1, d1.mdl m2, m1, (m2 0 (by omega)).trans e0, fun K => ?_⟩
  simp only [rL_law_147, rL_law_148, hs, cs.1.1.1, true_and]
  rw [d4]
  simp only [tl_some, List.cons_append, List.nil_append, rL_law_151, rL_law_152, hs, e0, ms.1.1, true_and]
  rw [m4]
  simp only [tl_some, List.cons_append, List.nil_append, rL_law_155, if_true]
theorem L_inserts {i L : Nat} (hL : L ≤ 2048) (hs : w.1 0 = (20, L)) (hi : i + 4 ≤ L) (cs : CS w I Q S) (ms : MS w I Q S) : LwS w I Q J 160 i (sp_inserts (I 0 (i + 1)) S).2 := by
  obtain ⟨I1, Q1, d1, d2, d3, d4⟩ := C_inserts (J := J) (k := I 0 (i + 1)) cs
  have e0 : I1 0 = I 0 := d2 0 (by omega)
  obtain ⟨I2, m1, m2, m4⟩ := N_inserts (J := J) (k := I 0 (i + 1)) (ms.cls d2 d3) cs.2.1
  refine ⟨I2, Q1, d1.mdl m2, m1, (m2 0 (by omega)).trans e0, fun K => ?_⟩
  simp only [rL_law_160, rL_law_161, rL_law_162, rL_law_163, rL_law_164, rL_law_165, rL_law_166, hs, cs.1.1.1, true_and, nI_addk1, vin_nI (show i + 1 < L by omega) (by omega), nI_clamp (show i + 1 < 2 ^ 31 by omega)]
  rw [d4]
  simp only [tl_some, List.cons_append, List.nil_append, rL_law_169, rL_law_170, rL_law_171, rL_law_172, rL_law_173, rL_law_174, rL_law_175, hs, e0, ms.1.1, true_and, nI_addk1, vin_nI (show i + 1 < L by omega) (by omega), nI_clamp (show i + 1 < 2 ^ 31 by omega)]
  rw [m4]
  simp only [tl_some, List.cons_append, List.nil_append, rL_law_178, if_true]
theorem L_sets {i L : Nat} (hL : L ≤ 2048) (hs : w.1 0 = (20, L)) (hi : i + 4 ≤ L) (cs : CS w I Q S) (ms : MS w I Q S) : LwS w I Q J 183 i (sp_sets (I 0 (i + 1)) S).2 := by
  obtain ⟨I1, Q1, d1, d2, d3, d4⟩ := C_sets (J := J) (k := I 0 (i + 1)) cs
  have e0 : I1 0 = I 0 := d2 0 (by omega)
  obtain ⟨I2, m1, m2, m4⟩ := N_sets (J := J) (k := I 0 (i + 1)) (ms.cls d2 d3) cs.2.1
  refine ⟨I2, Q1, d1.mdl m2, m1, (m2 0 (by omega)).trans e0, fun K => ?_⟩
  simp only [rL_law_183, rL_law_184, rL_law_185, rL_law_186, rL_law_187, rL_law_188, rL_law_189, hs, cs.1.1.1, true_and, nI_addk1, vin_nI (show i + 1 < L by omega) (by omega), nI_clamp (show i + 1 < 2 ^ 31 by omega)]
  rw [d4]
  simp only [tl_some, List.cons_append, List.nil_append, rL_law_192, rL_law_193, rL_law_194, rL_law_195, rL_law_196, rL_law_197, rL_law_198, hs, e0, ms.1.1, true_and, nI_addk1, vin_nI (show i + 1 < L by omega) (by omega), nI_clamp (show i + 1 < 2 ^ 31 by omega)]
  rw [m4]
  simp only [tl_some, List.cons_append, List.nil_append, rL_law_201, if_true]
theorem L_drops {i L : Nat} (hL : L ≤ 2048) (hs : w.1 0 = (20, L)) (hi : i + 4 ≤ L) (cs : CS w I Q S) (ms : MS w I Q S) : LwS w I Q J 206 i (sp_drops (I 0 (i + 1)) S).2 := by
  obtain ⟨I1, Q1, d1, d2, d3, d4⟩ := C_drops (J := J) (k := I 0 (i + 1)) cs
  have e0 : I1 0 = I 0 := d2 0 (by omega)
  obtain ⟨I2, m1, m2, m4⟩ := N_drops (J := J) (k := I 0 (i + 1)) (ms.cls d2 d3) cs.2.1
  refine ⟨I2, Q1, d1.mdl m2, m1, (m2 0 (by omega)).trans e0, fun K => ?_⟩
  simp only [rL_law_206, rL_law_207, rL_law_208, rL_law_209, rL_law_210, rL_law_211, rL_law_212, hs, cs.1.1.1, true_and, nI_addk1, vin_nI (show i + 1 < L by omega) (by omega), nI_clamp (show i + 1 < 2 ^ 31 by omega)]
  rw [d4]
  simp only [tl_some, List.cons_append, List.nil_append, rL_law_215, rL_law_216, rL_law_217, rL_law_218, rL_law_219, rL_law_220, rL_law_221, hs, e0, ms.1.1, true_and, nI_addk1, vin_nI (show i + 1 < L by omega) (by omega), nI_clamp (show i + 1 < 2 ^ 31 by omega)]
  rw [m4]
  simp only [tl_some, List.cons_append, List.nil_append, rL_law_224, if_true]
theorem L_puts {i L : Nat} (hL : L ≤ 2048) (hs : w.1 0 = (20, L)) (hi : i + 4 ≤ L) (cs : CS w I Q S) (ms : MS w I Q S) : LwS w I Q J 229 i (sp_puts (I 0 (i + 1)) (I 0 (i + 2)) (I 0 (i + 3)) S).2 := by
  obtain ⟨I1, Q1, d1, d2, d3, d4⟩ := C_puts (J := J) (k := I 0 (i + 1)) (i := I 0 (i + 2)) (c := I 0 (i + 3)) cs
  have e0 : I1 0 = I 0 := d2 0 (by omega)
  obtain ⟨I2, m1, m2, m4⟩ := N_puts (J := J) (k := I 0 (i + 1)) (i := I 0 (i + 2)) (c := I 0 (i + 3)) (ms.cls d2 d3) cs.2.1
  refine ⟨I2, Q1, d1.mdl m2, m1, (m2 0 (by omega)).trans e0, fun K => ?_⟩
  simp only [rL_law_229, rL_law_230, rL_law_231, rL_law_232, rL_law_233, rL_law_234, rL_law_235, rL_law_236, rL_law_237, rL_law_238, rL_law_239, rL_law_240, rL_law_241, rL_law_242, rL_law_243, rL_law_244, rL_law_245, hs, cs.1.1.1, true_and, nI_addk1, vin_nI (show i + 1 < L by omega) (by omega), nI_clamp (show i + 1 < 2 ^ 31 by omega), nI_addk2, vin_nI (show i + 2 < L by omega) (by omega), nI_clamp (show i + 2 < 2 ^ 31 by omega), nI_addk3, vin_nI (show i + 3 < L by omega) (by omega), nI_clamp (show i + 3 < 2 ^ 31 by omega)]
  rw [d4]
  simp only [tl_some, List.cons_append, List.nil_append, rL_law_248, rL_law_249, rL_law_250, rL_law_251, rL_law_252, rL_law_253, rL_law_254, rL_law_255, rL_law_256, rL_law_257, rL_law_258, rL_law_259, rL_law_260, rL_law_261, rL_law_262, rL_law_263, rL_law_264, hs, e0, ms.1.1, true_and, nI_addk1, vin_nI (show i + 1 < L by omega) (by omega), nI_clamp (show i + 1 < 2 ^ 31 by omega), nI_addk2, vin_nI (show i + 2 < L by omega) (by omega), nI_clamp (show i + 2 < 2 ^ 31 by omega), nI_addk3, vin_nI (show i + 3 < L by omega) (by omega), nI_clamp (show i + 3 < 2 ^ 31 by omega)]
  rw [m4]
  simp only [tl_some, List.cons_append, List.nil_append, rL_law_267, if_true]
theorem L_erases {i L : Nat} (hL : L ≤ 2048) (hs : w.1 0 = (20, L)) (hi : i + 4 ≤ L) (cs : CS w I Q S) (ms : MS w I Q S) : LwS w I Q J 272 i (sp_erases (I 0 (i + 1)) (I 0 (i + 2)) S).2 := by
  obtain ⟨I1, Q1, d1, d2, d3, d4⟩ := C_erases (J := J) (k := I 0 (i + 1)) (i := I 0 (i + 2)) cs
  have e0 : I1 0 = I 0 := d2 0 (by omega)
  obtain ⟨I2, m1, m2, m4⟩ := N_erases (J := J) (k := I 0 (i + 1)) (i := I 0 (i + 2)) (ms.cls d2 d3) cs.2.1
  refine ⟨I2, Q1, d1.mdl m2, m1, (m2 0 (by omega)).trans e0, fun K => ?_⟩
  simp only [rL_law_272, rL_law_273, rL_law_274, rL_law_275, rL_law_276, rL_law_277, rL_law_278, rL_law_279, rL_law_280, rL_law_281, rL_law_282, rL_law_283, hs, cs.1.1.1, true_and, nI_addk1, vin_nI (show i + 1 < L by omega) (by omega), nI_clamp (show i + 1 < 2 ^ 31 by omega), nI_addk2, vin_nI (show i + 2 < L by omega) (by omega), nI_clamp (show i + 2 < 2 ^ 31 by omega)]
  rw [d4]
  simp only [tl_some, List.cons_append, List.nil_append, rL_law_286, rL_law_287, rL_law_288, rL_law_289, rL_law_290, rL_law_291, rL_law_292, rL_law_293, rL_law_294, rL_law_295, rL_law_296, rL_law_297, hs, e0, ms.1.1, true_and, nI_addk1, vin_nI (show i + 1 < L by omega) (by omega), nI_clamp (show i + 1 < 2 ^ 31 by omega), nI_addk2, vin_nI (show i + 2 < L by omega) (by omega), nI_clamp (show i + 2 < 2 ^ 31 by omega)]
  rw [m4]
  simp only [tl_some, List.cons_append, List.nil_append, rL_law_300, if_true]
theorem L_splits {i L : Nat} (hL : L ≤ 2048) (hs : w.1 0 = (20, L)) (hi : i + 4 ≤ L) (cs : CS w I Q S) (ms : MS w I Q S) : LwS w I Q J 305 i (sp_splits (I 0 (i + 1)) (I 0 (i + 2)) S).2 := by
  obtain ⟨I1, Q1, d1, d2, d3, d4⟩ := C_splits (J := J) (k := I 0 (i + 1)) (i := I 0 (i + 2)) cs
  have e0 : I1 0 = I 0 := d2 0 (by omega)
  obtain ⟨I2, m1, m2, m4⟩ := N_splits (J := J) (k := I 0 (i + 1)) (i := I 0 (i + 2)) (ms.cls d2 d3) cs.2.1
  refine ⟨I2, Q1, d1.mdl m2, m1, (m2 0 (by omega)).trans e0, fun K => ?_⟩
  simp only [rL_law_305, rL_law_306, rL_law_307, rL_law_308, rL_law_309, rL_law_310, rL_law_311, rL_law_312, rL_law_313, rL_law_314, rL_law_315, rL_law_316, hs, cs.1.1.1, true_and, nI_addk1, vin_nI (show i + 1 < L by omega) (by omega), nI_clamp (show i + 1 < 2 ^ 31 by omega), nI_addk2, vin_nI (show i + 2 < L by omega) (by omega), nI_clamp (show i + 2 < 2 ^ 31 by omega)]
  rw [d4]
  simp only [tl_some, List.cons_append, List.nil_append, rL_law_319, rL_law_320, rL_law_321, rL_law_322, rL_law_323, rL_law_324, rL_law_325, rL_law_326, rL_law_327, rL_law_328, rL_law_329, rL_law_330, hs, e0, ms.1.1, true_and, nI_addk1, vin_nI (show i + 1 < L by omega) (by omega), nI_clamp (show i + 1 < 2 ^ 31 by omega), nI_addk2, vin_nI (show i + 2 < L by omega) (by omega), nI_clamp (show i + 2 < 2 ^ 31 by omega)]
  rw [m4]
  simp only [tl_some, List.cons_append, List.nil_append, rL_law_333, if_true]
theorem L_word {i L : Nat} (hL : L ≤ 2048) (hs : w.1 0 = (20, L)) (hi : i + 4 ≤ L) (cs : CS w I Q S) (ms : MS w I Q S) : LwS w I Q J 338 i (sp_word S).2 := by
  obtain ⟨I1, Q1, d1, d2, d3, d4⟩ := C_word (J := J)  cs
  have e0 : I1 0 = I 0 := d2 0 (by omega)
  obtain ⟨I2, m1, m2, m4⟩ := N_word (J := J)  (ms.cls d2 d3) cs.2.1
  refine ⟨I2, Q1, d1.mdl m2, m1, (m2 0 (by omega)).trans e0, fun K => ?_⟩
  simp only [rL_law_338, rL_law_339, hs, cs.1.1.1, true_and]
  rw [d4]
  simp only [tl_some, List.cons_append, List.nil_append, rL_law_342, rL_law_343, hs, e0, ms.1.1, true_and]
  rw [m4]
  simp only [tl_some, List.cons_append, List.nil_append, rL_law_346, if_true]
theorem L_unword {i L : Nat} (hL : L ≤ 2048) (hs : w.1 0 = (20, L)) (hi : i + 4 ≤ L) (cs : CS w I Q S) (ms : MS w I Q S) : LwS w I Q J 351 i (sp_unword (I 0 (i + 1)) S).2 := by
  obtain ⟨I1, Q1, d1, d2, d3, d4⟩ := C_unword (J := J) (x := I 0 (i + 1)) cs
  have e0 : I1 0 = I 0 := d2 0 (by omega)
  obtain ⟨I2, m1, m2, m4⟩ := N_unword (J := J) (x := I 0 (i + 1)) (ms.cls d2 d3) cs.2.1
  refine ⟨I2, Q1, d1.mdl m2, m1, (m2 0 (by omega)).trans e0, fun K => ?_⟩
  simp only [rL_law_351, rL_law_352, rL_law_353, rL_law_354, rL_law_355, rL_law_356, rL_law_357, hs, cs.1.1.1, true_and, nI_addk1, vin_nI (show i + 1 < L by omega) (by omega), nI_clamp (show i + 1 < 2 ^ 31 by omega)]
  rw [d4]
  simp only [tl_some, List.cons_append, List.nil_append, rL_law_360, rL_law_361, rL_law_362, rL_law_363, rL_law_364, rL_law_365, rL_law_366, hs, e0, ms.1.1, true_and, nI_addk1, vin_nI (show i + 1 < L by omega) (by omega), nI_clamp (show i + 1 < 2 ^ 31 by omega)]
  rw [m4]
  simp only [tl_some, List.cons_append, List.nil_append, rL_law_369, if_true]
theorem L_rule {i L : Nat} (hL : L ≤ 2048) (hs : w.1 0 = (20, L)) (hi : i + 4 ≤ L) (cs : CS w I Q S) (ms : MS w I Q S) : LwS w I Q J 374 i (sp_rule (I 0 (i + 1)) (I 0 (i + 2)) (I 0 (i + 3)) S).2 := by
  obtain ⟨I1, Q1, d1, d2, d3, d4⟩ := C_rule (J := J) (c := I 0 (i + 1)) (m := I 0 (i + 2)) (s := I 0 (i + 3)) cs
  have e0 : I1 0 = I 0 := d2 0 (by omega)
  obtain ⟨I2, m1, m2, m4⟩ := N_rule (J := J) (c := I 0 (i + 1)) (m := I 0 (i + 2)) (s := I 0 (i + 3)) (ms.cls d2 d3) cs.2.1
  refine ⟨I2, Q1, d1.mdl m2, m1, (m2 0 (by omega)).trans e0, fun K => ?_⟩
  simp only [rL_law_374, rL_law_375, rL_law_376, rL_law_377, rL_law_378, rL_law_379, rL_law_380, rL_law_381, rL_law_382, rL_law_383, rL_law_384, rL_law_385, rL_law_386, rL_law_387, rL_law_388, rL_law_389, rL_law_390, hs, cs.1.1.1, true_and, nI_addk1, vin_nI (show i + 1 < L by omega) (by omega), nI_clamp (show i + 1 < 2 ^ 31 by omega), nI_addk2, vin_nI (show i + 2 < L by omega) (by omega), nI_clamp (show i + 2 < 2 ^ 31 by omega), nI_addk3, vin_nI (show i + 3 < L by omega) (by omega), nI_clamp (show i + 3 < 2 ^ 31 by omega)]
  rw [d4]
  simp only [tl_some, List.cons_append, List.nil_append, rL_law_393, rL_law_394, rL_law_395, rL_law_396, rL_law_397, rL_law_398, rL_law_399, rL_law_400, rL_law_401, rL_law_402, rL_law_403, rL_law_404, rL_law_405, rL_law_406, rL_law_407, rL_law_408, rL_law_409, hs, e0, ms.1.1, true_and, nI_addk1, vin_nI (show i + 1 < L by omega) (by omega), nI_clamp (show i + 1 < 2 ^ 31 by omega), nI_addk2, vin_nI (show i + 2 < L by omega) (by omega), nI_clamp (show i + 2 < 2 ^ 31 by omega), nI_addk3, vin_nI (show i + 3 < L by omega) (by omega), nI_clamp (show i + 3 < 2 ^ 31 by omega)]
  rw [m4]
  simp only [tl_some, List.cons_append, List.nil_append, rL_law_412, if_true]
theorem L_at {i L : Nat} (hL : L ≤ 2048) (hs : w.1 0 = (20, L)) (hi : i + 4 ≤ L) (cs : CS w I Q S) (ms : MS w I Q S) : LwS w I Q J 417 i (sp_at (I 0 (i + 1)) (I 0 (i + 2)) (I 0 (i + 3)) S).2 := by
  obtain ⟨I1, Q1, d1, d2, d3, d4⟩ := C_at (J := J) (k := I 0 (i + 1)) (i := I 0 (i + 2)) (x := I 0 (i + 3)) cs
  have e0 : I1 0 = I 0 := d2 0 (by omega)
  obtain ⟨I2, m1, m2, m4⟩ := N_at (J := J) (k := I 0 (i + 1)) (i := I 0 (i + 2)) (x := I 0 (i + 3)) (ms.cls d2 d3) cs.2.1
  refine ⟨I2, Q1, d1.mdl m2, m1, (m2 0 (by omega)).trans e0, fun K => ?_⟩
  simp only [rL_law_417, rL_law_418, rL_law_419, rL_law_420, rL_law_421, rL_law_422, rL_law_423, rL_law_424, rL_law_425, rL_law_426, rL_law_427, rL_law_428, rL_law_429, rL_law_430, rL_law_431, rL_law_432, rL_law_433, hs, cs.1.1.1, true_and, nI_addk1, vin_nI (show i + 1 < L by omega) (by omega), nI_clamp (show i + 1 < 2 ^ 31 by omega), nI_addk2, vin_nI (show i + 2 < L by omega) (by omega), nI_clamp (show i + 2 < 2 ^ 31 by omega), nI_addk3, vin_nI (show i + 3 < L by omega) (by omega), nI_clamp (show i + 3 < 2 ^ 31 by omega)]
  rw [d4]
  simp only [tl_some, List.cons_append, List.nil_append, rL_law_436, rL_law_437, rL_law_438, rL_law_439, rL_law_440, rL_law_441, rL_law_442, rL_law_443, rL_law_444, rL_law_445, rL_law_446, rL_law_447, rL_law_448, rL_law_449, rL_law_450, rL_law_451, rL_law_452, hs, e0, ms.1.1, true_and, nI_addk1, vin_nI (show i + 1 < L by omega) (by omega), nI_clamp (show i + 1 < 2 ^ 31 by omega), nI_addk2, vin_nI (show i + 2 < L by omega) (by omega), nI_clamp (show i + 2 < 2 ^ 31 by omega), nI_addk3, vin_nI (show i + 3 < L by omega) (by omega), nI_clamp (show i + 3 < 2 ^ 31 by omega)]
  rw [m4]
  simp only [tl_some, List.cons_append, List.nil_append, rL_law_455, if_true]
theorem L_of {i L : Nat} (hL : L ≤ 2048) (hs : w.1 0 = (20, L)) (hi : i + 4 ≤ L) (cs : CS w I Q S) (ms : MS w I Q S) : LwS w I Q J 460 i (sp_of (I 0 (i + 1)) (I 0 (i + 2)) S).2 := by
  obtain ⟨I1, Q1, d1, d2, d3, d4⟩ := C_of (J := J) (k := I 0 (i + 1)) (x := I 0 (i + 2)) cs
  have e0 : I1 0 = I 0 := d2 0 (by omega)
  obtain ⟨I2, m1, m2, m4⟩ := N_of (J := J) (k := I 0 (i + 1)) (x := I 0 (i + 2)) (ms.cls d2 d3) cs.2.1
  refine ⟨I2, Q1, d1.mdl m2, m1, (m2 0 (by omega)).trans e0, fun K => ?_⟩
  simp only [rL_law_460, rL_law_461, rL_law_462, rL_law_463, rL_law_464, rL_law_465, rL_law_466, rL_law_467, rL_law_468, rL_law_469, rL_law_470, rL_law_471, hs, cs.1.1.1, true_and, nI_addk1, vin_nI (show i + 1 < L by omega) (by omega), nI_clamp (show i + 1 < 2 ^ 31 by omega), nI_addk2, vin_nI (show i + 2 < L by omega) (by omega), nI_clamp (show i + 2 < 2 ^ 31 by omega)]
  rw [d4]
  simp only [tl_some, List.cons_append, List.nil_append, rL_law_474, rL_law_475, rL_law_476, rL_law_477, rL_law_478, rL_law_479, rL_law_480, rL_law_481, rL_law_482, rL_law_483, rL_law_484, rL_law_485, hs, e0, ms.1.1, true_and, nI_addk1, vin_nI (show i + 1 < L by omega) (by omega), nI_clamp (show i + 1 < 2 ^ 31 by omega), nI_addk2, vin_nI (show i + 2 < L by omega) (by omega), nI_clamp (show i + 2 < 2 ^ 31 by omega)]
  rw [m4]
  simp only [tl_some, List.cons_append, List.nil_append, rL_law_488, if_true]
theorem L_span {i L : Nat} (hL : L ≤ 2048) (hs : w.1 0 = (20, L)) (hi : i + 4 ≤ L) (cs : CS w I Q S) (ms : MS w I Q S) : LwS w I Q J 493 i (sp_span (I 0 (i + 1)) (I 0 (i + 2)) (I 0 (i + 3)) S).2 := by
  obtain ⟨I1, Q1, d1, d2, d3, d4⟩ := C_span (J := J) (k := I 0 (i + 1)) (i := I 0 (i + 2)) (x := I 0 (i + 3)) cs
  have e0 : I1 0 = I 0 := d2 0 (by omega)
  obtain ⟨I2, m1, m2, m4⟩ := N_span (J := J) (k := I 0 (i + 1)) (i := I 0 (i + 2)) (x := I 0 (i + 3)) (ms.cls d2 d3) cs.2.1
  refine ⟨I2, Q1, d1.mdl m2, m1, (m2 0 (by omega)).trans e0, fun K => ?_⟩
  simp only [rL_law_493, rL_law_494, rL_law_495, rL_law_496, rL_law_497, rL_law_498, rL_law_499, rL_law_500, rL_law_501, rL_law_502, rL_law_503, rL_law_504, rL_law_505, rL_law_506, rL_law_507, rL_law_508, rL_law_509, hs, cs.1.1.1, true_and, nI_addk1, vin_nI (show i + 1 < L by omega) (by omega), nI_clamp (show i + 1 < 2 ^ 31 by omega), nI_addk2, vin_nI (show i + 2 < L by omega) (by omega), nI_clamp (show i + 2 < 2 ^ 31 by omega), nI_addk3, vin_nI (show i + 3 < L by omega) (by omega), nI_clamp (show i + 3 < 2 ^ 31 by omega)]
  rw [d4]
  simp only [tl_some, List.cons_append, List.nil_append, rL_law_512, rL_law_513, rL_law_514, rL_law_515, rL_law_516, rL_law_517, rL_law_518, rL_law_519, rL_law_520, rL_law_521, rL_law_522, rL_law_523, rL_law_524, rL_law_525, rL_law_526, rL_law_527, rL_law_528, hs, e0, ms.1.1, true_and, nI_addk1, vin_nI (show i + 1 < L by omega) (by omega), nI_clamp (show i + 1 < 2 ^ 31 by omega), nI_addk2, vin_nI (show i + 2 < L by omega) (by omega), nI_clamp (show i + 2 < 2 ^ 31 by omega), nI_addk3, vin_nI (show i + 3 < L by omega) (by omega), nI_clamp (show i + 3 < 2 ^ 31 by omega)]
  rw [m4]
  simp only [tl_some, List.cons_append, List.nil_append, rL_law_531, if_true]
theorem L_anew {i L : Nat} (hL : L ≤ 2048) (hs : w.1 0 = (20, L)) (hi : i + 4 ≤ L) (cs : CS w I Q S) (ms : MS w I Q S) : LwS w I Q J 536 i (sp_anew S).2 := by
  obtain ⟨I1, Q1, d1, d2, d3, d4⟩ := C_anew (J := J)  cs
  have e0 : I1 0 = I 0 := d2 0 (by omega)
  obtain ⟨I2, m1, m2, m4⟩ := N_anew (J := J)  (ms.cls d2 d3) 
  refine ⟨I2, Q1, d1.mdl m2, m1, (m2 0 (by omega)).trans e0, fun K => ?_⟩
  simp only [rL_law_536, rL_law_537, hs, cs.1.1.1, true_and]
  rw [d4]
  simp only [tl_some, List.cons_append, List.nil_append, rL_law_540, rL_law_541, hs, e0, ms.1.1, true_and]
  rw [m4]
  simp only [tl_some, List.cons_append, List.nil_append, rL_law_544, if_true]
theorem L_painted {i L : Nat} (hL : L ≤ 2048) (hs : w.1 0 = (20, L)) (hi : i + 4 ≤ L) (cs : CS w I Q S) (ms : MS w I Q S) : LwS w I Q J 549 i (sp_painted (I 0 (i + 1)) S).2 := by
  obtain ⟨I1, Q1, d1, d2, d3, d4⟩ := C_painted (J := J) (x := I 0 (i + 1)) cs
  have e0 : I1 0 = I 0 := d2 0 (by omega)
  obtain ⟨I2, m1, m2, m4⟩ := N_painted (J := J) (x := I 0 (i + 1)) (ms.cls d2 d3) cs.2.1
  refine ⟨I2, Q1, d1.mdl m2, m1, (m2 0 (by omega)).trans e0, fun K => ?_⟩
  simp only [rL_law_549, rL_law_550, rL_law_551, rL_law_552, rL_law_553, rL_law_554, rL_law_555, hs, cs.1.1.1, true_and, nI_addk1, vin_nI (show i + 1 < L by omega) (by omega), nI_clamp (show i + 1 < 2 ^ 31 by omega)]
  rw [d4]
  simp only [tl_some, List.cons_append, List.nil_append, rL_law_558, rL_law_559, rL_law_560, rL_law_561, rL_law_562, rL_law_563, rL_law_564, hs, e0, ms.1.1, true_and, nI_addk1, vin_nI (show i + 1 < L by omega) (by omega), nI_clamp (show i + 1 < 2 ^ 31 by omega)]
  rw [m4]
  simp only [tl_some, List.cons_append, List.nil_append, rL_law_567, if_true]
theorem L_back {i L : Nat} (hL : L ≤ 2048) (hs : w.1 0 = (20, L)) (hi : i + 4 ≤ L) (cs : CS w I Q S) (ms : MS w I Q S) : LwS w I Q J 572 i (sp_back S).2 := by
  obtain ⟨I1, Q1, d1, d2, d3, d4⟩ := C_back (J := J)  cs
  have e0 : I1 0 = I 0 := d2 0 (by omega)
  obtain ⟨I2, m1, m2, m4⟩ := N_back (J := J)  (ms.cls d2 d3) cs.2.1
  refine ⟨I2, Q1, d1.mdl m2, m1, (m2 0 (by omega)).trans e0, fun K => ?_⟩
  simp only [rL_law_572, rL_law_573, hs, cs.1.1.1, true_and]
  rw [d4]
  simp only [tl_some, List.cons_append, List.nil_append, rL_law_576, rL_law_577, hs, e0, ms.1.1, true_and]
  rw [m4]
  simp only [tl_some, List.cons_append, List.nil_append, rL_law_580, if_true]
theorem L_told {i L : Nat} (hL : L ≤ 2048) (hs : w.1 0 = (20, L)) (hi : i + 4 ≤ L) (cs : CS w I Q S) (ms : MS w I Q S) : LwS w I Q J 585 i (sp_told (I 0 (i + 1)) S).2 := by
  obtain ⟨I1, Q1, d1, d2, d3, d4⟩ := C_told (J := J) (x := I 0 (i + 1)) cs
  have e0 : I1 0 = I 0 := d2 0 (by omega)
  obtain ⟨I2, m1, m2, m4⟩ := N_told (J := J) (x := I 0 (i + 1)) (ms.cls d2 d3) 
  refine ⟨I2, Q1, d1.mdl m2, m1, (m2 0 (by omega)).trans e0, fun K => ?_⟩
  simp only [rL_law_585, rL_law_586, rL_law_587, rL_law_588, rL_law_589, rL_law_590, rL_law_591, hs, cs.1.1.1, true_and, nI_addk1, vin_nI (show i + 1 < L by omega) (by omega), nI_clamp (show i + 1 < 2 ^ 31 by omega)]
  rw [d4]
  simp only [tl_some, List.cons_append, List.nil_append, rL_law_594, rL_law_595, rL_law_596, rL_law_597, rL_law_598, rL_law_599, rL_law_600, hs, e0, ms.1.1, true_and, nI_addk1, vin_nI (show i + 1 < L by omega) (by omega), nI_clamp (show i + 1 < 2 ^ 31 by omega)]
  rw [m4]
  simp only [tl_some, List.cons_append, List.nil_append, rL_law_603, if_true]
end LW
