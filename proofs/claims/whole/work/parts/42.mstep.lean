/-! ===== the reference: one step of painting ===== -/
/-- in the midst of line k: so many bytes have their colours, such a pile stands open -/
def pmS (I : Nat → Nat → Int32) (k : Nat) (c : List (Int32 × Int32)) (P : List Nat) : Prop := pst I P ∧ I 270 15 = nI k ∧ I 270 16 = nI c.length ∧ clIs I k c
theorem leq_getD {u v : List Int32} (h : u.length = v.length) (e : ∀ t, t < u.length → u.getD t 0 = v.getD t 0) : u = v := by
  apply List.ext_getElem h
  intro t h1 h2
  have := e t h1
  rw [List.getD_eq_getElem?_getD, List.getD_eq_getElem?_getD, List.getElem?_eq_getElem h1, List.getElem?_eq_getElem h2] at this
  exact this
theorem if10 (b : Prop) [Decidable b] {A B : Prop} : (if (if b then (1 : Int32) else 0) = 0 then A else B) ↔ if b then B else A := by
  by_cases q : b
  · rw [if_pos q, if_pos q, if_neg (by decide)]
  · rw [if_neg q, if_neg q, if_pos rfl]
theorem ifn10 (b : Prop) [Decidable b] {A B : Prop} : (if ¬ (if b then (1 : Int32) else 0) = 0 then A else B) ↔ if b then A else B := by
  by_cases q : b
  · rw [if_pos q, if_pos q, if_pos (by decide)]
  · rw [if_neg q, if_neg q, if_neg (by decide)]
section M2
variable {w : WS} {I : Nat → Nat → Int32} {Q : Nat → Nat → Option Nat} {J : Nat → Nat → Int64} {h : HS} {P : List Nat} {l : List Int32} {k : Nat} {W : List (List Int32)}
theorem M_col {m n : Nat} {x : Int32} {c : List (Int32 × Int32)} (ok : mOK w Q) (hP : stV (P, m)) (hk : k < 10) (hn : c.length + n ≤ 30) (s : pmS I k c P) : ∃ I', pmS I' k (c ++ List.replicate n (x, mdI (topP P))) P ∧ FrM k I I' ∧ ∀ K, (WP mX10_colour 0 [.ref 270, .int (nI n), .int x, .null] [] w (I, Q, J) K ↔ K none w (I', Q, J)) := by
  obtain ⟨s1, s2, s3, s4⟩ := s
  obtain ⟨I', f1, f2, f3, f4, f5⟩ := M_colour (J := J) (x := x) ok hP hk hn s1 s2 s3 s4
  exact ⟨I', ⟨f1, by rw [f4.2.1 15 (by omega) (by omega)]; exact s2, by rw [f2]; simp, f3⟩, f4, f5⟩
theorem M_on {m x : Nat} {c : List (Int32 × Int32)} (ok : mOK w Q) (hP : stV (P, m)) (hl : P.length < 6) (hx : x < 4) (s : pmS I k c P) : ∃ I', pmS I' k c (P ++ [x]) ∧ FrM k I I' ∧ ∀ K, (WP mX10_comesOn 0 [.ref 270, .int (nI x)] [] w (I, Q, J) K ↔ K (some (.int 1)) w (I', Q, J)) := by
  obtain ⟨s1, s2, s3, s4⟩ := s
  refine ⟨_, ⟨⟨by rw [u2_ne (Or.inr (by decide)), u2_same], by rw [u2_same]; simp⟩, by rw [u2_ne (Or.inr (by decide)), u2_ne (Or.inr (by decide))]; exact s2, by rw [u2_ne (Or.inr (by decide)), u2_ne (Or.inr (by decide))]; exact s3, fun j hj => ?_⟩, FrM.tr (FrM.pile ⟨by decide, by decide⟩) (FrM.pile ⟨by decide, by decide⟩), fun K => M_comesOn ok hP.2.2.1 hl hx s1⟩
  have := s4 j hj
  exact ⟨by rw [u2_ne (Or.inl (by decide)), u2_ne (Or.inl (by decide))]; exact this.1, by rw [u2_ne (Or.inl (by decide)), u2_ne (Or.inl (by decide))]; exact this.2⟩
theorem M_off {m : Nat} {c : List (Int32 × Int32)} (ok : mOK w Q) (hP : stV (P, m)) (s : pmS I k c P) : ∃ I', pmS I' k c P.dropLast ∧ FrM k I I' ∧ ∀ K, (WP mX10_goesOff 0 [.ref 270] [] w (I, Q, J) K ↔ K none w (I', Q, J)) := by
  obtain ⟨s1, s2, s3, s4⟩ := s
  refine ⟨_, ⟨⟨by rw [u2_same], by rw [u2_ne (Or.inr (by decide)), u2_same, List.length_dropLast]⟩, by rw [u2_ne (Or.inr (by decide)), u2_ne (Or.inr (by decide))]; exact s2, by rw [u2_ne (Or.inr (by decide)), u2_ne (Or.inr (by decide))]; exact s3, fun j hj => ?_⟩, FrM.tr (FrM.pile ⟨by decide, by decide⟩) (FrM.pile ⟨by decide, by decide⟩), fun K => M_goesOff ok hP.2.2.1 hP.2.1 hP.1 s1⟩
  have := s4 j hj
  exact ⟨by rw [u2_ne (Or.inl (by decide)), u2_ne (Or.inl (by decide))]; exact this.1, by rw [u2_ne (Or.inl (by decide)), u2_ne (Or.inl (by decide))]; exact this.2⟩
theorem M_pushes {m x : Nat} {y : Int32} {c : List (Int32 × Int32)} (ok : mOK w Q) (hP : stV (P, m)) (hk : k < 10) (hn : c.length + 1 ≤ 30) (hx : x < 4) (s : pmS I k c P) : ∃ I', pmS I' k (c ++ List.replicate 1 (if P.length < 6 then y else 6, mdI (topP P))) (pushP P x) ∧ FrM k I I' ∧ ∀ K, (WP mX10_pushes 0 [.ref 270, .int (nI x), .int y, .null, .null] [] w (I, Q, J) K ↔ K none w (I', Q, J)) := by
  have h6 : P.length ≤ 6 := hP.2.1
  obtain ⟨I1, f1, f2, f3⟩ := M_col (J := J) (n := 1) (x := if P.length < 6 then y else 6) ok hP hk hn s
  by_cases q : P.length < 6
  · obtain ⟨I2, g1, g2, g3⟩ := M_on (J := J) ok hP q hx f1
    refine ⟨I2, by unfold pushP; rw [if_pos q (e := P)]; exact g1, f2.tr g2, fun K => ?_⟩
    rw [if_pos q] at f3
    simp only [rX10_pushes_0, rX10_pushes_1, rX10_pushes_4, rX10_pushes_6, rX10_pushes_9, rX10_pushes_10, rX10_pushes_13, rX10_pushes_14, rX10_pushes_15, rX10_pushes_16, rX10_pushes_17, rX10_pushes_18, rX10_pushes_21, rX10_pushes_22, rX10_pushes_25, rX10_pushes_27, ok.1, s.1.2, true_and]
    rw [if_neg (show ¬ (6 : Int32) ≤ nI P.length from nI_ge q (by decide)), if_neg (by decide), show (1 : Int32) = nI 1 from rfl, f3]
    simp only [tl_none, rX10_pushes_30, rX10_pushes_31, rX10_pushes_34, rX10_pushes_35, rX10_pushes_36, ok.1, true_and]
    rw [if_neg (by decide), g3]
    simp only [tl_some, rX10_pushes_39, rX10_pushes_42, rX10_pushes_43, rX10_pushes_46, rX10_pushes_47, rX10_pushes_49]
    rw [if_neg (by decide)]
  · refine ⟨I1, by unfold pushP; rw [if_neg q (e := P)]; exact f1, f2, fun K => ?_⟩
    rw [if_neg q] at f3
    simp only [rX10_pushes_0, rX10_pushes_1, rX10_pushes_4, rX10_pushes_6, rX10_pushes_9, rX10_pushes_10, rX10_pushes_13, rX10_pushes_14, rX10_pushes_15, rX10_pushes_16, rX10_pushes_17, rX10_pushes_18, rX10_pushes_21, rX10_pushes_22, rX10_pushes_25, rX10_pushes_27, ok.1, s.1.2, true_and]
    rw [if_pos (show (6 : Int32) ≤ nI P.length from nI_le (show 6 ≤ P.length by omega) (by omega)), if_pos trivial, show (1 : Int32) = nI 1 from rfl, f3]
    simp only [tl_none, rX10_pushes_30, rX10_pushes_31, rX10_pushes_46, rX10_pushes_47, rX10_pushes_49, if_true]
theorem M_letters_loop {i : Nat} {K : Option Value → WS → HS → Prop} (ok : mOK w Q) (hl : l.length ≤ 30) (hk : k < 10) (r : lnM (I 271) k l) (hL : I 270 15 = nI k) (hi : I 270 16 = nI i) (hi3 : i ≤ 30) : ∀ d n, d + (i + n) = l.length → (WP mX10_letters 2 [.ref 270, .int (nI n)] [] w (I, Q, J) K ↔ K (some (.int (nI (runE (fun c => decide (isL c)) l d (i + n) - i)))) w (I, Q, J)) := by
  intro d
  induction d with
  | zero =>
    intro n hn
    rw [rX10_letters_2]
    simp only [rX10_letters_3, rX10_letters_4, rX10_letters_7, rX10_letters_8, rX10_letters_9, rX10_letters_12, rX10_letters_15, rX10_letters_18, rX10_letters_21, rX10_letters_24, rX10_letters_25, ok.1, hi, true_and, nI_add, M_byteAt ok hl hk (show i + n < 1000 by omega) r hL, tl_some, M_isLetter]
    rw [show l.getD (i + n) 0 = 0 by rw [List.getD_eq_getElem?_getD, List.getElem?_eq_none (by omega)]; rfl, if10, if_neg (by decide)]
    simp only [runE, Nat.add_sub_cancel_left]
  | succ d ih =>
    intro n hn
    rw [rX10_letters_2]
    simp only [rX10_letters_3, rX10_letters_4, rX10_letters_7, rX10_letters_8, rX10_letters_9, rX10_letters_12, rX10_letters_15, rX10_letters_18, rX10_letters_21, rX10_letters_24, rX10_letters_25, ok.1, hi, true_and, nI_add, M_byteAt ok hl hk (show i + n < 1000 by omega) r hL, tl_some, M_isLetter]
    rw [if10]
    simp only [runE, decide_eq_true_eq]
    by_cases q : isL (l.getD (i + n) 0)
    · rw [if_pos q, if_pos q, nI_1, ih (n + 1) (by omega)]; rfl
    · rw [if_neg q, if_neg q, Nat.add_sub_cancel_left]
theorem M_figures_loop {i : Nat} {K : Option Value → WS → HS → Prop} (ok : mOK w Q) (hl : l.length ≤ 30) (hk : k < 10) (r : lnM (I 271) k l) (hL : I 270 15 = nI k) (hi : I 270 16 = nI i) (hi3 : i ≤ 30) : ∀ d n, d + (i + n) = l.length → (WP mX10_figures 2 [.ref 270, .int (nI n)] [] w (I, Q, J) K ↔ K (some (.int (nI (runE (fun c => decide (isF c)) l d (i + n) - i)))) w (I, Q, J)) := by
  intro d
  induction d with
  | zero =>
    intro n hn
    rw [rX10_figures_2]
    simp only [rX10_figures_3, rX10_figures_4, rX10_figures_7, rX10_figures_8, rX10_figures_9, rX10_figures_12, rX10_figures_15, rX10_figures_18, rX10_figures_21, rX10_figures_24, rX10_figures_25, ok.1, hi, true_and, nI_add, M_byteAt ok hl hk (show i + n < 1000 by omega) r hL, tl_some, M_isFigure]
    rw [show l.getD (i + n) 0 = 0 by rw [List.getD_eq_getElem?_getD, List.getElem?_eq_none (by omega)]; rfl, if10, if_neg (by decide)]
    simp only [runE, Nat.add_sub_cancel_left]
  | succ d ih =>
    intro n hn
    rw [rX10_figures_2]
    simp only [rX10_figures_3, rX10_figures_4, rX10_figures_7, rX10_figures_8, rX10_figures_9, rX10_figures_12, rX10_figures_15, rX10_figures_18, rX10_figures_21, rX10_figures_24, rX10_figures_25, ok.1, hi, true_and, nI_add, M_byteAt ok hl hk (show i + n < 1000 by omega) r hL, tl_some, M_isFigure]
    rw [if10]
    simp only [runE, decide_eq_true_eq]
    by_cases q : isF (l.getD (i + n) 0)
    · rw [if_pos q, if_pos q, nI_1, ih (n + 1) (by omega)]; rfl
    · rw [if_neg q, if_neg q, Nat.add_sub_cancel_left]
theorem M_isWord_in {i n x : Nat} {u : List Int32} {fn : Int32} (ok : mOK w Q) (hl : l.length ≤ 30) (hk : k < 10) (r : lnM (I 271) k l) (hL : I 270 15 = nI k) (hin : i + n ≤ l.length) (hx : x < 4) (ru : wdM (I 271) x u) (hu : u.length = n) (hu5 : n ≤ 5) : ∀ d j, d + j = n → (∀ t, t < j → u.getD t 0 = l.getD (i + t) 0) → ∃ v6, ∀ K, (WP mX10_isWord 41 [.ref 270, .int (nI i), .int (nI n), .int fn, .int (nI x), .int 1, .int (nI j)] [] w (I, Q, J) K ↔ WP mX10_isWord 92 [.ref 270, .int (nI i), .int (nI n), .int fn, .int (nI x), .int (if (l.drop i).take n = u then 1 else 0), v6] [] w (I, Q, J) K) := by
  obtain ⟨o, ⟨q0, -⟩, w1, -⟩ := id ok
  have hv : ((l.drop i).take n).length = n := by simp; omega
  have hg : ∀ t, t < n → ((l.drop i).take n).getD t 0 = l.getD (i + t) 0 := fun t ht => by
    simp only [List.getD_eq_getElem?_getD, List.getElem?_take, ht, if_true, List.getElem?_drop]
  intro d
  induction d with
  | zero =>
    intro j hj hh
    refine ⟨.int (nI j), fun K => ?_⟩
    rw [rX10_isWord_41]
    simp only [rX10_isWord_43, rX10_isWord_44]
    rw [if_pos (nI_le (by omega) (by omega)), if_pos (leq_getD (by rw [hv, hu]) (fun t ht => by rw [hv] at ht; rw [hg t ht, hh t (by omega)]))]
  | succ d ih =>
    intro j hj hh
    have hjn : j < n := by omega
    have hd : ∀ {K : Option Value → WS → HS → Prop}, WP mX10_isWord 41 [.ref 270, .int (nI i), .int (nI n), .int fn, .int (nI x), .int 1, .int (nI j)] [] w (I, Q, J) K ↔ if u.getD j 0 = l.getD (i + j) 0 then WP mX10_isWord 41 [.ref 270, .int (nI i), .int (nI n), .int fn, .int (nI x), .int 1, .int (nI (j + 1))] [] w (I, Q, J) K else WP mX10_isWord 41 [.ref 270, .int (nI i), .int (nI n), .int fn, .int (nI x), .int 0, .int (nI (j + 1))] [] w (I, Q, J) K := by
      intro K
      rw [rX10_isWord_41]
      simp only [rX10_isWord_43, rX10_isWord_44, rX10_isWord_47, rX10_isWord_49, rX10_isWord_52, rX10_isWord_53, rX10_isWord_56, rX10_isWord_59, rX10_isWord_60, rX10_isWord_62, rX10_isWord_63, rX10_isWord_64, rX10_isWord_66, rX10_isWord_67, rX10_isWord_68, rX10_isWord_69, rX10_isWord_70, rX10_isWord_72, rX10_isWord_73, o, q0, w1, rf_some, true_and, ixW, nI_add, vin_nI (show 317 + 5 * x + j < 373 by omega) (by decide), nI_clamp (show 317 + 5 * x + j < 2 ^ 31 by omega), M_byteAt ok hl hk (show i + j < 1000 by omega) r hL, ru.2 j (by omega)]
      rw [if_neg (nI_ge hjn (by omega)), if_neg (by decide)]
      simp only [tl_some, List.cons_append, List.nil_append, rX10_isWord_76, rX10_isWord_79, rX10_isWord_80, rX10_isWord_83, rX10_isWord_84, rX10_isWord_86, rX10_isWord_89, nI_1]
      by_cases q : u.getD j 0 = l.getD (i + j) 0
      · rw [if_pos q, if_neg (fun z => z q)]
      · rw [if_neg q, if_pos q]
    by_cases q : u.getD j 0 = l.getD (i + j) 0
    · obtain ⟨v6, h6⟩ := ih (j + 1) (by omega) (fun t ht => by
        by_cases e : t = j
        · rw [e]; exact q
        · exact hh t (by omega))
      refine ⟨v6, fun K => ?_⟩
      rw [hd, if_pos q, h6]
    · refine ⟨.int (nI (j + 1)), fun K => ?_⟩
      rw [hd, if_neg q, rX10_isWord_41]
      simp only [rX10_isWord_43, rX10_isWord_44, rX10_isWord_47, rX10_isWord_49, if_true, ite_self]
      rw [if_neg (fun z => q (by rw [← hg j hjn, z]))]
theorem M_isWord_loop {i n : Nat} (ok : mOK w Q) (hl : l.length ≤ 30) (hk : k < 10) (r : lnM (I 271) k l) (hL : I 270 15 = nI k) (hin : i + n ≤ l.length) (hW : wdV W) (h1 : I 271 1 = nI W.length) (hwd : ∀ x, x < W.length → wdM (I 271) x (W.getD x [])) {K : Option Value → WS → HS → Prop} : ∀ d x (b : Bool) (v5 v6 : Value), d + x = W.length → (WP mX10_isWord 5 [.ref 270, .int (nI i), .int (nI n), .int (if b then 1 else 0), .int (nI x), v5, v6] [] w (I, Q, J) K ↔ K (some (.int (if b || hasW W ((l.drop i).take n) d x then 1 else 0))) w (I, Q, J)) := by
  obtain ⟨o, ⟨q0, -⟩, w1, -⟩ := id ok
  have h4 := hW.1
  have hv : ((l.drop i).take n).length = n := by simp; omega
  intro d
  induction d with
  | zero =>
    intro x b v5 v6 hx
    rw [rX10_isWord_5]
    simp only [rX10_isWord_7, rX10_isWord_8, rX10_isWord_11, rX10_isWord_12, rX10_isWord_13, rX10_isWord_113, rX10_isWord_114, o, q0, w1, rf_some, true_and, vin_nI (show 1 < 373 by decide) (by decide), show (1 : Int32) = nI 1 from rfl, nI_clamp (show 1 < 2 ^ 31 by decide), h1]
    rw [if_pos (nI_le (by omega) (by omega))]
    simp only [hasW, Bool.or_false]
    cases b <;> simp [show nI 1 = 1 from rfl]
  | succ d ih =>
    intro x b v5 v6 hx
    have hx4 : x < W.length := by omega
    have ru := hwd x hx4
    have hu := (hW.2 x hx4).2
    have fin : ∀ (y : Bool) (v6 : Value), WP mX10_isWord 92 [.ref 270, .int (nI i), .int (nI n), .int (if b then 1 else 0), .int (nI x), .int (if y then 1 else 0), v6] [] w (I, Q, J) K ↔ K (some (.int (if (b || y) || hasW W ((l.drop i).take n) d (x + 1) then 1 else 0))) w (I, Q, J) := by
      intro y v6
      rw [← ih (x + 1) (b || y) (.int (if y then 1 else 0)) v6 (by omega)]
      cases b <;> cases y <;> simp [rX10_isWord_92, rX10_isWord_93, rX10_isWord_96, rX10_isWord_98, rX10_isWord_101, rX10_isWord_102, rX10_isWord_105, rX10_isWord_106, rX10_isWord_107, rX10_isWord_110, nI_1]
    have hd : ∀ {K : Option Value → WS → HS → Prop}, WP mX10_isWord 5 [.ref 270, .int (nI i), .int (nI n), .int (if b then 1 else 0), .int (nI x), v5, v6] [] w (I, Q, J) K ↔ if (W.getD x []).length = n then WP mX10_isWord 41 [.ref 270, .int (nI i), .int (nI n), .int (if b then 1 else 0), .int (nI x), .int 1, .int (nI 0)] [] w (I, Q, J) K else WP mX10_isWord 41 [.ref 270, .int (nI i), .int (nI n), .int (if b then 1 else 0), .int (nI x), .int 0, .int (nI 0)] [] w (I, Q, J) K := by
      intro K
      rw [rX10_isWord_5]
      simp only [rX10_isWord_7, rX10_isWord_8, o, q0, rf_some, true_and]
      rw [rX10_isWord_11, rX10_isWord_12]
      simp only [show (1 : Int32).toNatClampNeg = 1 by decide, w1, show vin 1 373 from vin_nI (n := 1) (by decide) (by decide), true_and, h1, rX10_isWord_13, rX10_isWord_16, rX10_isWord_17, rX10_isWord_20, rX10_isWord_23, rX10_isWord_25, rX10_isWord_26, rX10_isWord_27, rX10_isWord_28, rX10_isWord_31, rX10_isWord_32, rX10_isWord_35, rX10_isWord_36, rX10_isWord_38, rX10_isWord_39, o, q0, rf_some, ixV, vin_nI (show 313 + x < 373 by omega) (by decide), nI_clamp (show 313 + x < 2 ^ 31 by omega), ru.1]
      rw [if_neg (nI_ge hx4 (by omega))]
      by_cases q : (W.getD x []).length = n
      · rw [if_pos q, if_neg (fun z => z (by rw [q]))]; rfl
      · rw [if_neg q, if_pos (fun z => q (nI_inj (by omega) (by omega) z))]; rfl
    rw [hd]
    have hs1 : (l.drop i).take n = W.getD x [] → hasW W ((l.drop i).take n) (d + 1) x = true := fun e => if_pos e
    have hs2 : ¬ (l.drop i).take n = W.getD x [] → hasW W ((l.drop i).take n) (d + 1) x = hasW W ((l.drop i).take n) d (x + 1) := fun e => if_neg e
    by_cases q : (W.getD x []).length = n
    · rw [if_pos q]
      obtain ⟨v', hv'⟩ := M_isWord_in (J := J) (fn := if b then 1 else 0) ok hl hk r hL hin (show x < 4 by omega) ru q (by omega) n 0 (by omega) (fun t ht => by omega)
      rw [hv']
      have := fin (decide ((l.drop i).take n = W.getD x [])) v'
      simp only [decide_eq_true_eq] at this
      rw [this]
      by_cases e : (l.drop i).take n = W.getD x []
      · rw [hs1 e, decide_eq_true e]; simp
      · rw [hs2 e, decide_eq_false e, Bool.or_false]
    · rw [if_neg q, rX10_isWord_41]
      simp only [rX10_isWord_43, rX10_isWord_44, rX10_isWord_47, rX10_isWord_49, if_true, ite_self]
      have := fin false (.int (nI 0))
      simp only [Bool.false_eq_true, if_false, Bool.or_false] at this
      rw [this, hs2 (fun z => q (by rw [← z, hv]))]
theorem M_isWord {i n : Nat} (ok : mOK w Q) (hl : l.length ≤ 30) (hk : k < 10) (r : lnM (I 271) k l) (hL : I 270 15 = nI k) (hin : i + n ≤ l.length) (hW : wdV W) (h1 : I 271 1 = nI W.length) (hwd : ∀ x, x < W.length → wdM (I 271) x (W.getD x [])) {K : Option Value → WS → HS → Prop} : WP mX10_isWord 0 [.ref 270, .int (nI i), .int (nI n), .null, .null, .null, .null] [] w (I, Q, J) K ↔ K (some (.int (if hasW W ((l.drop i).take n) W.length 0 then 1 else 0))) w (I, Q, J) := by
  have := M_isWord_loop (J := J) (K := K) ok hl hk r hL hin hW h1 hwd W.length 0 false .null .null (by omega)
  simp only [Bool.false_eq_true, if_false, Bool.false_or] at this
  rw [← this]
  simp only [rX10_isWord_0, rX10_isWord_1, rX10_isWord_2, rX10_isWord_3]
  rfl
end M2
