/-! ===== the reference: all lines ===== -/
section M6
variable {w : WS} {I : Nat → Nat → Int32} {Q : Nat → Nat → Option Nat} {J : Nat → Nat → Int64} {h : HS} {P : List Nat} {l : List Int32} {k t : Nat} {W ls : List (List Int32)} {R : List RU} {c : List (Int32 × Int32)}
theorem isMk_iff {m : Nat} : isMk l m ↔ l.length = 1 ∧ l.getD 0 0 = nI (64 + m) := by
  unfold isMk
  constructor
  · rintro rfl; simp
  · rintro ⟨h1, h2⟩
    match l, h1 with
    | [x], _ => simp at h2; rw [h2]
theorem clIs.fr {I' : Nat → Nat → Int32} (h : clIs I k c) (h1 : ∀ j, j < c.length → I' 275 (30 * k + j) = I 275 (30 * k + j) ∧ I' 276 (30 * k + j) = I 276 (30 * k + j)) : clIs I' k c := fun j hj => ⟨(h1 j hj).1.trans (h j hj).1, (h1 j hj).2.trans (h j hj).2⟩
theorem M_line {S : List Nat × Nat} (ok : mOK w Q) (hl : l.length ≤ 30) (hk : k < 10) (hW : wdV W) (r : lnM (I 271) k l) (hw1 : I 271 1 = nI W.length) (hwd : ∀ x, x < W.length → wdM (I 271) x (W.getD x [])) (hS : stV S) (p : pst I S.1) (hm : I 270 14 = nI S.2) (hL : I 270 15 = nI k) : ∃ I', clIs I' k (lineP W l S).1 ∧ pst I' (lineP W l S).2.1 ∧ I' 270 14 = nI (lineP W l S).2.2 ∧ FrL k I I' ∧ ∀ K, (WP mX10_paintsLine 0 [.ref 270, .null, .null] [] w (I, Q, J) K ↔ K none w (I', Q, J)) := by
  obtain ⟨o, ⟨q0, q1, q3, q4, q7, q8, q9, q10, q11⟩, w1, w2, w3, w4, w5, w6, -⟩ := id ok
  have h26 := hS.2.2.2.2
  by_cases hmz : S.2 = 0
  · have hP0 : stV (S.1, 0) := ⟨hS.1, hS.2.1, hS.2.2.1, hS.2.2.2.1, Nat.zero_le _⟩
    have e1 : ∀ f, f ≠ 16 → u2 I 270 16 (nI 0) 270 f = I 270 f := fun f hf => u2_ne (Or.inr hf)
    have s0 : pmS (u2 I 270 16 (nI 0)) k [] S.1 := ⟨p.fr (e1 12 (by decide)) (e1 13 (by decide)), by rw [e1 15 (by decide)]; exact hL, by rw [u2_same]; rfl, fun j hj => by simp at hj⟩
    have e271 : u2 I 270 16 (nI 0) 271 = I 271 := Fr_u2 271 (by decide)
    obtain ⟨I1, f1, f2, f3⟩ := M_bytes (J := J) ok hl hk hW l.length [] S.1 0 (u2 I 270 16 (nI 0)) (by rw [e271]; exact r) (by rw [e271]; exact hw1) (by rw [e271]; exact hwd) hP0 (Nat.zero_le _) (Nat.zero_le _) (by simp) s0
    have pk := paintL_ok (W := W) (l := l) l.length 0 S.1 0 [] hP0 (Nat.zero_le _) rfl (Nat.zero_le _) (by omega)
    have p2 : pst (u2 I1 270 14 (nI (paintL W l l.length 0 S.1 0 []).2.2)) (paintL W l l.length 0 S.1 0 []).2.1 := f1.1.fr (u2_ne (Or.inr (by decide))) (u2_ne (Or.inr (by decide)))
    obtain ⟨I2, g1, g2, g3⟩ := M_cut (J := J) (v1 := nI (paintL W l l.length 0 S.1 0 []).2.2) ok pk.2.1 p2 6 1 (by omega) (by omega) (by have := pk.2.1.2.1; dsimp only at this; omega)
    have e275 : I2 275 = I1 275 := (g2.1 275 (by decide)).trans (Fr_u2 275 (by decide))
    have e276 : I2 276 = I1 276 := (g2.1 276 (by decide)).trans (Fr_u2 276 (by decide))
    unfold lineP
    rw [if_neg (fun z => z hmz)]
    refine ⟨I2, f1.2.2.2.fr (fun j _ => by rw [e275, e276]; exact ⟨rfl, rfl⟩), g1, ?_, ?_, fun K => ?_⟩
    · rw [g2.2 14 (by decide) (by decide), u2_same]
    · refine FrL.tr (FrL.tr (FrL.tr (FrL.fld (x := nI 0) (Or.inr rfl)) f2.L) (FrL.fld (f := 14) (x := nI (paintL W l l.length 0 S.1 0 []).2.2) (Or.inl ⟨by decide, by decide⟩))) ⟨fun c z1 _ _ => g2.1 c z1, fun f z1 z2 => g2.2 f (by omega) (by omega), fun j _ => by rw [g2.1 275 (by decide), g2.1 276 (by decide)]; exact ⟨rfl, rfl⟩⟩
    · have hm0 : I 270 14 = 0 := by rw [hm, hmz]; rfl
      simp only [rX10_paintsLine_0, rX10_paintsLine_1, rX10_paintsLine_4, rX10_paintsLine_12, rX10_paintsLine_13, rX10_paintsLine_14, rX10_paintsLine_15, rX10_paintsLine_16, o, hm0, true_and, if_true]
      have := f3 K .null
      simp only [List.length_nil] at this
      rw [show (0 : Int32) = nI 0 from rfl, this]
      simp only [rX10_paintsLine_91, rX10_paintsLine_92, rX10_paintsLine_93, rX10_paintsLine_96, rX10_paintsLine_97, o, true_and]
      exact g3 K
  · have emk : (65 : Int32) + nI S.2 - 1 = nI (64 + S.2) := by
      rw [show (65 : Int32) = nI 65 from rfl, nI_add]
      exact (show nI (65 + S.2) - 1 = nI (65 + S.2 - 1) from pk_sub (show 1 ≤ 65 + S.2 by omega)).trans (congrArg nI (by omega))
    have hne : ¬ I 270 14 = 0 := by rw [hm]; exact fun z => hmz (nI_inj (b := 0) (by omega) (by decide) z)
    have hd : ∀ {K : Option Value → WS → HS → Prop}, WP mX10_paintsLine 0 [.ref 270, .null, .null] [] w (I, Q, J) K ↔ WP mX10_paintsMarked 40 [.ref 270, .int (if decide (isMk l S.2) then 1 else 0), .int (nI 0)] [] w (I, Q, J) (fun r w h => WP mX10_paintsLine 11 [.ref 270, .null, .null] (r.toList ++ []) w h K) := by
      intro K
      simp only [rX10_paintsLine_0, rX10_paintsLine_1, rX10_paintsLine_4, rX10_paintsLine_7, rX10_paintsLine_8, o, true_and]
      rw [if_neg hne]
      simp only [rX10_paintsMarked_0, rX10_paintsMarked_1, rX10_paintsMarked_4, rX10_paintsMarked_5, rX10_paintsMarked_6, rX10_paintsMarked_9, rX10_paintsMarked_10, rX10_paintsMarked_11, rX10_paintsMarked_12, o, q0, w1, rf_some, hL, true_and, ixL, vin_nI (show 3 + k < 373 by omega) (by decide), nI_clamp (show 3 + k < 2 ^ 31 by omega), r.1]
      by_cases z1 : l.length = 1
      · rw [if_neg (show ¬ ¬ nI l.length = 1 from fun z => z (by rw [z1]; rfl))]
        simp only [rX10_paintsMarked_15, rX10_paintsMarked_16, rX10_paintsMarked_17, o, true_and]
        rw [show (0 : Int32) = nI 0 from rfl, M_byteAt ok hl hk (by decide) r hL]
        simp only [tl_some, rX10_paintsMarked_20, rX10_paintsMarked_22, rX10_paintsMarked_23, rX10_paintsMarked_26, rX10_paintsMarked_27, rX10_paintsMarked_28, rX10_paintsMarked_29, o, hm, true_and, emk]
        by_cases z2 : l.getD 0 0 = nI (64 + S.2)
        · rw [if_neg (fun z => z z2), if_pos (decide_eq_true (isMk_iff.mpr ⟨z1, z2⟩))]
          simp only [rX10_paintsMarked_32, rX10_paintsMarked_33, rX10_paintsMarked_36, rX10_paintsMarked_37, rX10_paintsMarked_38, rX10_paintsMarked_39]
          rfl
        · rw [if_pos z2, if_neg (fun z => z2 (isMk_iff.mp (of_decide_eq_true z)).2)]
          simp only [rX10_paintsMarked_36, rX10_paintsMarked_37, rX10_paintsMarked_38, rX10_paintsMarked_39]
          rfl
      · rw [if_pos (show ¬ nI l.length = 1 from fun z => z1 (nI_inj (b := 1) (by omega) (by decide) z)), if_neg (fun z => z1 (isMk_iff.mp (of_decide_eq_true z)).1)]
        simp only [rX10_paintsMarked_36, rX10_paintsMarked_37, rX10_paintsMarked_38, rX10_paintsMarked_39]
        rfl
    obtain ⟨I1, f1, f2, f3, f4⟩ := M_mark_loop (J := J) (m := S.2) (b := decide (isMk l S.2)) ok hl hk l.length 0 I rfl r hL hm (fun j hj => by simp at hj)
    have e1 : ∀ f, I1 270 f = I 270 f := fun f => by rw [f2 270 (by decide) (by decide)]
    unfold lineP
    rw [if_pos hmz]
    refine ⟨u2 I1 270 14 (nI (if decide (isMk l S.2) then 0 else S.2)), ?_, ?_, u2_same.trans ?_, ?_, fun K => ?_⟩
    · simp only [decide_eq_true_eq] at f1
      exact f1.fr (fun j _ => by rw [Fr_u2 275 (by decide), Fr_u2 276 (by decide)]; exact ⟨rfl, rfl⟩)
    · exact p.fr (by rw [u2_ne (Or.inr (by decide)), e1]) (by rw [u2_ne (Or.inr (by decide)), e1])
    · simp only [decide_eq_true_eq]
    · exact FrL.tr ⟨fun c z1 z2 z3 => f2 c z2 z3, fun f _ _ => e1 f, f3⟩ (FrL.fld (Or.inl ⟨by decide, by decide⟩))
    · rw [hd, f4]
      simp only [tl_none, rX10_paintsLine_11]
theorem M_standing {S : List Nat × Nat} {K : Option Value → WS → HS → Prop} (ok : mOK w Q) (hS : stV S) (p : pst I S.1) (hm : I 270 14 = nI S.2) : WP mX10_standing 0 [.ref 270] [] w (I, Q, J) K ↔ K (some (.int (nI (cod S)))) w (I, Q, J) := by
  have h26 := hS.2.2.2.2
  have h6 := hS.2.1
  have h12 := pil12 hS
  simp only [rX10_standing_0, rX10_standing_1, rX10_standing_4, rX10_standing_6, rX10_standing_7, rX10_standing_8, rX10_standing_11, rX10_standing_13, rX10_standing_14, rX10_standing_15, rX10_standing_16, rX10_standing_19, rX10_standing_20, ok.1, hm, p.1, p.2, true_and]
  rw [show (16 : Int32) = nI 16 from rfl, show (12 : Int32) = nI 12 from rfl, nI_shl (by decide) (by omega), nI_shl (by decide) (by omega), nI_orp (by omega) (by omega), show S.2 * 2 ^ 16 + S.1.length * 2 ^ 12 = (S.2 * 2 ^ 4 + S.1.length) * 2 ^ 12 by omega, nI_orp (by omega) (by omega)]
  rfl
/-- line j's colours and its end, as the reference keeps them -/
def ptM (I : Nat → Nat → Int32) (W ls : List (List Int32)) (j : Nat) : Prop := clIs I j (lineP W (ls.getD j []) (stAt W ls j)).1 ∧ I 277 j = nI (cod (stAt W ls (j + 1)))
theorem ptM.fr {I' : Nat → Nat → Int32} {j : Nat} (h : ptM I W ls j) (h1 : I' 275 = I 275) (h2 : I' 276 = I 276) (h3 : I' 277 = I 277) : ptM I' W ls j := ⟨h.1.fr (fun i _ => by rw [h1, h2]; exact ⟨rfl, rfl⟩), by rw [h3]; exact h.2⟩
/-- what painting writes -/
def FrP (I I' : Nat → Nat → Int32) : Prop := (∀ c, c ≠ 270 → c ≠ 275 → c ≠ 276 → c ≠ 277 → I' c = I c) ∧ ∀ f, f < 12 ∨ 16 < f → I' 270 f = I 270 f
theorem FrP.tr {I1 I2 : Nat → Nat → Int32} (h1 : FrP I I1) (h2 : FrP I1 I2) : FrP I I2 := ⟨fun c q1 q2 q3 q4 => (h2.1 c q1 q2 q3 q4).trans (h1.1 c q1 q2 q3 q4), fun f q1 => (h2.2 f q1).trans (h1.2 f q1)⟩
theorem FrP.fld {f : Nat} {x : Int32} (hf : 12 ≤ f ∧ f ≤ 16) : FrP I (u2 I 270 f x) := ⟨fun c q1 _ _ _ => Fr_u2 c q1, fun g q1 => u2_ne (Or.inr (by omega))⟩
theorem M_paints_loop (ok : mOK w Q) (hz : zV (ls, W, R)) : ∀ n k (I : Nat → Nat → Int32), n + k = ls.length → nowIs (I 271) (ls, W, R) → pst I (stAt W ls k).1 → I 270 14 = nI (stAt W ls k).2 → I 270 15 = nI k → (∀ j, j < k → ptM I W ls j) → ∃ I', (∀ j, j < ls.length → ptM I' W ls j) ∧ FrP I I' ∧ ∀ K, (WP mX10_paints 20 [.ref 270] [] w (I, Q, J) K ↔ K none w (I', Q, J)) := by
  obtain ⟨o, ⟨q0, q1, q3, q4, q7, q8, q9, q10, q11⟩, w1, w2, w3, w4, w5, w6, w7, -⟩ := id ok
  have h10 : ls.length ≤ 10 := hz.1.1
  have v0 : vin 0 373 := vin_nI (n := 0) (by decide) (by decide)
  intro n
  induction n with
  | zero =>
    intro k I hn nw p hm hL hpt
    refine ⟨I, fun j hj => hpt j (by omega), ⟨fun _ _ _ _ _ => rfl, fun _ _ => rfl⟩, fun K => ?_⟩
    rw [rX10_paints_20]
    simp only [rX10_paints_21, rX10_paints_24, rX10_paints_25, rX10_paints_28, rX10_paints_29, rX10_paints_30, rX10_paints_63, o, q0, w1, rf_some, true_and, v0, cl0, nw.1.1, hL]
    rw [if_pos (nI_le (show ls.length ≤ k by omega) (by omega))]
  | succ n ih =>
    intro k I hn nw p hm hL hpt
    have hkl : k < ls.length := by omega
    have hl := hz.1.2 k hkl
    have hst := stAt_ok W ls k
    have hst1 := stAt_ok W ls (k + 1)
    obtain ⟨I1, f1, f2, f3, f4, f5⟩ := M_line (J := J) ok hl (show k < 10 by omega) hz.2.1 (nw.2.1 k hkl) nw.1.2.1 nw.2.2.1 hst p hm hL
    have f2' : pst I1 (stAt W ls (k + 1)).1 := f2
    have f3' : I1 270 14 = nI (stAt W ls (k + 1)).2 := f3
    have hL1 : I1 270 15 = nI k := by rw [f4.2.1 15 (by omega) (by omega)]; exact hL
    have e2 : ∀ z, z ≠ 277 → z ≠ 270 → u2 (u2 I1 277 k (nI (cod (stAt W ls (k + 1))))) 270 15 (nI (k + 1)) z = I1 z := fun z z1 z2 => by rw [Fr_u2 z z2, Fr_u2 z z1]
    have e3 : ∀ f, f ≠ 15 → u2 (u2 I1 277 k (nI (cod (stAt W ls (k + 1))))) 270 15 (nI (k + 1)) 270 f = I1 270 f := fun f hf => by rw [u2_ne (Or.inr hf), u2_ne (Or.inl (by decide))]
    have e277 : ∀ j, u2 (u2 I1 277 k (nI (cod (stAt W ls (k + 1))))) 270 15 (nI (k + 1)) 277 j = if j = k then nI (cod (stAt W ls (k + 1))) else I1 277 j := fun j => by
      rw [u2_ne (Or.inl (by decide))]
      by_cases e : j = k
      · rw [if_pos e, e, u2_same]
      · rw [if_neg e, u2_ne (Or.inr e)]
    have hpt2 : ∀ j, j < k + 1 → ptM (u2 (u2 I1 277 k (nI (cod (stAt W ls (k + 1))))) 270 15 (nI (k + 1))) W ls j := by
      intro j hj
      by_cases e : j = k
      · subst e
        exact ⟨f1.fr (fun i _ => by rw [e2 275 (by decide) (by decide), e2 276 (by decide) (by decide)]; exact ⟨rfl, rfl⟩), by rw [e277, if_pos rfl]⟩
      · have hj2 : j < k := by omega
        have hlen := hz.1.2 j (show j < ls.length by omega)
        have hcl : (lineP W (ls.getD j []) (stAt W ls j)).1.length = (ls.getD j []).length := (lineP_ok (stAt_ok W ls j)).1
        refine ⟨(hpt j hj2).1.fr (fun i hi => ?_), ?_⟩
        · have hi2 : i < 30 := by rw [hcl] at hi; dsimp only at hlen; omega
          rw [e2 275 (by decide) (by decide), e2 276 (by decide) (by decide)]
          exact f4.2.2 (30 * j + i) (by omega)
        · rw [e277, if_neg e, f4.1 277 (by decide) (by decide) (by decide)]
          exact (hpt j hj2).2
    have nw2 : nowIs (u2 (u2 I1 277 k (nI (cod (stAt W ls (k + 1))))) 270 15 (nI (k + 1)) 271) (ls, W, R) := by
      rw [e2 271 (by decide) (by decide), f4.1 271 (by decide) (by decide) (by decide)]; exact nw
    obtain ⟨I', g1, g2, g3⟩ := ih (k + 1) _ (by omega) nw2 (f2'.fr (e3 12 (by decide)) (e3 13 (by decide))) (by rw [e3 14 (by decide)]; exact f3') u2_same hpt2
    have hfr : FrP I (u2 (u2 I1 277 k (nI (cod (stAt W ls (k + 1))))) 270 15 (nI (k + 1))) := ⟨fun c z1 z2 z3 z4 => by rw [e2 c z4 z1, f4.1 c z1 z2 z3], fun f z => by rw [e3 f (by omega), f4.2.1 f (by omega) (by omega)]⟩
    refine ⟨I', g1, hfr.tr g2, fun K => ?_⟩
    rw [rX10_paints_20]
    simp only [rX10_paints_21, rX10_paints_24, rX10_paints_25, rX10_paints_28, rX10_paints_29, rX10_paints_30, rX10_paints_33, rX10_paints_34, o, q0, w1, rf_some, true_and, v0, cl0, nw.1.1, hL]
    rw [if_neg (nI_ge hkl (by omega)), f5]
    simp only [tl_none, rX10_paints_37, rX10_paints_38, rX10_paints_41, rX10_paints_42, rX10_paints_45, rX10_paints_46, o, q9, rf_some, true_and, hL1]
    rw [M_standing ok hst1 f2' f3']
    have hlx : ∀ y, u2 I1 277 k y 270 15 = nI k := fun y => by rw [u2_ne (Or.inl (by decide))]; exact hL1
    simp only [tl_some, List.cons_append, List.nil_append, rX10_paints_49, rX10_paints_50, rX10_paints_51, rX10_paints_52, rX10_paints_55, rX10_paints_56, rX10_paints_57, rX10_paints_60, o, w7, true_and, vin_nI (show k < 10 by omega) (by decide), nI_clamp (show k < 2 ^ 31 by omega), ne_eq, show ¬ (277 : Nat) = 0 by decide, not_false_eq_true, hlx, nI_1]
    exact g3 K
theorem M_paints (ok : mOK w Q) (hz : zV (ls, W, R)) (nw : nowIs (I 271) (ls, W, R)) : ∃ I', (∀ j, j < ls.length → ptM I' W ls j) ∧ FrP I I' ∧ ∀ K, (WP mX10_paints 0 [.ref 270] [] w (I, Q, J) K ↔ K none w (I', Q, J)) := by
  obtain ⟨I', f1, f2, f3⟩ := M_paints_loop (J := J) ok hz ls.length 0 (u2 (u2 (u2 (u2 I 270 12 0) 270 13 1) 270 14 0) 270 15 0) rfl (by rw [Fr_u2 271 (by decide), Fr_u2 271 (by decide), Fr_u2 271 (by decide), Fr_u2 271 (by decide)]; exact nw) ⟨by rw [u2_ne (Or.inr (by decide)), u2_ne (Or.inr (by decide)), u2_ne (Or.inr (by decide)), u2_same]; rfl, by rw [u2_ne (Or.inr (by decide)), u2_ne (Or.inr (by decide)), u2_same]; rfl⟩ (by rw [u2_ne (Or.inr (by decide)), u2_same]; rfl) (by rw [u2_same]; rfl) (fun j hj => by omega)
  refine ⟨I', f1, (FrP.tr (FrP.tr (FrP.tr (FrP.fld ⟨by decide, by decide⟩) (FrP.fld ⟨by decide, by decide⟩)) (FrP.fld ⟨by decide, by decide⟩)) (FrP.fld ⟨by decide, by decide⟩)).tr f2, fun K => ?_⟩
  simp only [rX10_paints_0, rX10_paints_1, rX10_paints_2, rX10_paints_5, rX10_paints_6, rX10_paints_7, rX10_paints_10, rX10_paints_11, rX10_paints_12, rX10_paints_15, rX10_paints_16, rX10_paints_17, ok.1, true_and]
  exact f3 K
theorem u2_u2 {a f : Nat} {x y : Int32} : u2 (u2 I a f x) a f y = u2 I a f y := by
  funext z g
  by_cases e : z = a ∧ g = f
  · obtain ⟨rfl, rfl⟩ := e; rw [u2_same, u2_same]
  · rw [u2_ne (by omega), u2_ne (by omega), u2_ne (by omega)]
/-- where a line was, and what stood open behind it -/
def wasM (I : Nat → Nat → Int32) (nw : Nat → Bool) (E : Nat → List Nat × Nat) (j : Nat) : Prop := if nw j then I 279 j = -1 else ∃ o, o < 10 ∧ I 279 j = nI o ∧ I 278 o = nI (cod (E j))
theorem M_changes_loop {nw : Nat → Bool} {E : Nat → List Nat × Nat} {x1 : Int32} {last : Nat} {K : Option Value → WS → HS → Prop} (ok : mOK w Q) (h10 : ls.length ≤ 10) (hla : last ≤ 10) (hE : ∀ j, stV (E j)) (h0 : I 271 0 = nI ls.length) (hpt : ∀ j, j < ls.length → ptM I W ls j) : ∀ n k a, n + k = ls.length → (∀ j, k ≤ j → j < ls.length → wasM I nw E j) → (WP mX10_changes 14 [.ref 270, .int x1, .int (nI last), .int 1, .int (nI k)] [] w (u2 I 270 6 (nI a), Q, J) K ↔ K none w (u2 I 270 6 (nI (a + anewP (fun j => !nw j && decide (stAt W ls (j + 1) = E j)) last n k)), Q, J)) := by
  obtain ⟨o, ⟨q0, q1, q3, q4, q7, q8, q9, q10, q11⟩, w1, w2, w3, w4, w5, w6, w7, w8, w9⟩ := id ok
  have v0 : vin 0 373 := vin_nI (n := 0) (by decide) (by decide)
  intro n
  induction n with
  | zero =>
    intro k a hn hw
    rw [rX10_changes_14]
    simp only [rX10_changes_16, rX10_changes_17, rX10_changes_20, rX10_changes_21, rX10_changes_22, rX10_changes_90, o, q0, w1, rf_some, true_and, v0, cl0, Fr_u2 271 (show 271 ≠ 270 by decide), h0]
    rw [if_pos (nI_le (show ls.length ≤ k by omega) (by omega))]
    rfl
  | succ n ih =>
    intro k a hn hw
    have hkl : k < ls.length := by omega
    have ih' := ih (k + 1) (a + 1) (by omega) (fun j z1 z2 => hw j (by omega) z2)
    have hwk := hw k (Nat.le_refl _) hkl
    have hd : WP mX10_changes 14 [.ref 270, .int x1, .int (nI last), .int 1, .int (nI k)] [] w (u2 I 270 6 (nI a), Q, J) K ↔ WP mX10_changes 39 [.ref 270, .int x1, .int (nI last), .int 1, .int (nI k)] [] w (u2 I 270 6 (nI (a + 1)), Q, J) K := by
      rw [rX10_changes_14]
      simp only [rX10_changes_16, rX10_changes_17, rX10_changes_20, rX10_changes_21, rX10_changes_22, rX10_changes_25, rX10_changes_26, rX10_changes_29, rX10_changes_30, rX10_changes_31, rX10_changes_34, rX10_changes_35, rX10_changes_36, o, q0, w1, rf_some, true_and, v0, cl0, Fr_u2 271 (show 271 ≠ 270 by decide), h0, u2_same, nI_1, u2_u2]
      rw [if_neg (nI_ge hkl (by omega)), if_neg (by decide)]
    have goOn : WP mX10_changes 78 [.ref 270, .int x1, .int (nI last), .int 1, .int (nI k)] [] w (u2 I 270 6 (nI (a + 1)), Q, J) K ↔ K none w (u2 I 270 6 (nI (a + (1 + anewP (fun j => !nw j && decide (stAt W ls (j + 1) = E j)) last n (k + 1)))), Q, J) := by
      rw [show a + (1 + anewP (fun j => !nw j && decide (stAt W ls (j + 1) = E j)) last n (k + 1)) = a + 1 + anewP (fun j => !nw j && decide (stAt W ls (j + 1) = E j)) last n (k + 1) by omega, ← ih']
      simp only [rX10_changes_78, rX10_changes_79, rX10_changes_82, rX10_changes_83, rX10_changes_84, rX10_changes_87, nI_1]
    have stop : WP mX10_changes 82 [.ref 270, .int x1, .int (nI last), .int 1, .int (nI k)] [] w (u2 I 270 6 (nI (a + 1)), Q, J) K ↔ K none w (u2 I 270 6 (nI (a + 1)), Q, J) := by
      simp only [rX10_changes_82, rX10_changes_83, rX10_changes_84, rX10_changes_87, nI_1]
      rw [rX10_changes_14]
      simp only [rX10_changes_16, rX10_changes_17, rX10_changes_20, rX10_changes_21, rX10_changes_22, rX10_changes_25, rX10_changes_26, rX10_changes_90, o, q0, w1, rf_some, true_and, v0, cl0, Fr_u2 271 (show 271 ≠ 270 by decide), h0, if_true, ite_self]
    have hA1 : last ≤ k → nw k = false → stAt W ls (k + 1) = E k → anewP (fun j => !nw j && decide (stAt W ls (j + 1) = E j)) last (n + 1) k = 1 := fun z1 z2 z3 => by
      simp only [anewP]; rw [if_pos (by simp [z1, z2, z3])]
    have hA2 : ¬ (last ≤ k ∧ nw k = false ∧ stAt W ls (k + 1) = E k) → anewP (fun j => !nw j && decide (stAt W ls (j + 1) = E j)) last (n + 1) k = 1 + anewP (fun j => !nw j && decide (stAt W ls (j + 1) = E j)) last n (k + 1) := fun z => by
      simp only [anewP]; rw [if_neg (fun z2 => z (by simpa using z2))]
    rw [hd]
    simp only [rX10_changes_39, rX10_changes_41, rX10_changes_42]
    by_cases hlk : last ≤ k
    · rw [if_neg (show ¬ nI k < nI last from nI_nlt hlk (by omega))]
      simp only [rX10_changes_45, rX10_changes_46, rX10_changes_49, rX10_changes_51, rX10_changes_52, rX10_changes_53, o, q11, w9, rf_some, true_and, Fr_u2 279 (show 279 ≠ 270 by decide), vin_nI (show k < 10 by omega) (by decide), nI_clamp (show k < 2 ^ 31 by omega)]
      unfold wasM at hwk
      rcases (show nw k = true ∨ nw k = false by cases nw k <;> simp) with hnw | hnw
      · rw [hnw, if_pos rfl] at hwk
        rw [if_pos hwk, goOn, hA2 (fun z => by rw [hnw] at z; exact absurd z.2.1 (by decide))]
      · rw [hnw, if_neg (by decide)] at hwk
        obtain ⟨oo, ho, ho1, ho2⟩ := hwk
        rw [if_neg (show ¬ I 279 k = -1 by rw [ho1]; exact fun z => nI_pos (n := oo) (by omega) (by rw [z]; decide))]
        simp only [rX10_changes_56, rX10_changes_57, rX10_changes_60, rX10_changes_62, rX10_changes_63, rX10_changes_64, rX10_changes_67, rX10_changes_68, rX10_changes_71, rX10_changes_73, rX10_changes_74, rX10_changes_75, o, q9, q10, q11, w7, w8, w9, rf_some, true_and, Fr_u2 279 (show 279 ≠ 270 by decide), Fr_u2 278 (show 278 ≠ 270 by decide), Fr_u2 277 (show 277 ≠ 270 by decide), vin_nI (show k < 10 by omega) (by decide), nI_clamp (show k < 2 ^ 31 by omega), ho1, vin_nI (show oo < 10 by omega) (by decide), nI_clamp (show oo < 2 ^ 31 by omega), ho2, (hpt k hkl).2]
        have hc1 := cod_lt (stAt_ok W ls (k + 1))
        have hc2 := cod_lt (hE k)
        by_cases hq : stAt W ls (k + 1) = E k
        · rw [if_pos (by rw [hq]), stop, hA1 hlk hnw hq]
        · rw [if_neg (fun z => hq (cod_inj (stAt_ok W ls (k + 1)) (hE k) (nI_inj (by omega) (by omega) z))), goOn, hA2 (fun z => hq z.2.2)]
    · rw [if_pos (show nI k < nI last from nI_lt (by omega) (by omega)), goOn, hA2 (fun z => hlk z.1)]
theorem M_changes {nw : Nat → Bool} {E : Nat → List Nat × Nat} {first last : Nat} (ok : mOK w Q) (hz : zV (ls, W, R)) (hla : last ≤ 10) (hfi : first ≤ ls.length) (hE : ∀ j, stV (E j)) (hnow : nowIs (I 271) (ls, W, R)) (hw : ∀ j, first ≤ j → j < ls.length → wasM I nw E j) : ∃ I', (∀ j, j < ls.length → ptM I' W ls j) ∧ I' 270 6 = nI (anewN W ls nw E first last) ∧ ((∀ c, c ≠ 270 → c ≠ 275 → c ≠ 276 → c ≠ 277 → I' c = I c) ∧ ∀ f, f < 12 ∨ 16 < f → f ≠ 6 → I' 270 f = I 270 f) ∧ ∀ K, (WP mX10_changes 0 [.ref 270, .int (nI first), .int (nI last), .null, .null] [] w (I, Q, J) K ↔ K none w (I', Q, J)) := by
  obtain ⟨I1, f1, f2, f3⟩ := M_paints (J := J) ok hz hnow
  have hw1 : ∀ j, first ≤ j → j < ls.length → wasM I1 nw E j := fun j z1 z2 => by
    have := hw j z1 z2
    unfold wasM at this ⊢
    rw [f2.1 279 (by decide) (by decide) (by decide) (by decide), f2.1 278 (by decide) (by decide) (by decide) (by decide)]
    exact this
  have h0 : I1 271 0 = nI ls.length := by rw [f2.1 271 (by decide) (by decide) (by decide) (by decide)]; exact hnow.1.1
  refine ⟨u2 I1 270 6 (nI (anewN W ls nw E first last)), fun j hj => (f1 j hj).fr (Fr_u2 275 (by decide)) (Fr_u2 276 (by decide)) (Fr_u2 277 (by decide)), u2_same, ⟨fun c z1 z2 z3 z4 => (Fr_u2 c z1).trans (f2.1 c z1 z2 z3 z4), fun f z1 z2 => (u2_ne (Or.inr z2)).trans (f2.2 f z1)⟩, fun K => ?_⟩
  have := M_changes_loop (ls := ls) (J := J) (K := K) (x1 := nI first) ok hz.1.1 hla hE h0 f1 (ls.length - first) first 0 (by omega) hw1
  rw [Nat.zero_add] at this
  simp only [rX10_changes_0, rX10_changes_1, ok.1, true_and]
  rw [f3]
  simp only [tl_none, rX10_changes_4, rX10_changes_5, rX10_changes_6, rX10_changes_9, rX10_changes_10, rX10_changes_11, rX10_changes_12, ok.1, true_and]
  exact this
end M6
