/-! ===== the class's changes ===== -/
section C3
variable {w : WS} {I : Nat → Nat → Int32} {Q : Nat → Nat → Option Nat} {J : Nat → Nat → Int64} {S : SP}
/-- as many different places as there are: all of them -/
theorem surjN : ∀ (n : Nat) (f : Nat → Nat), (∀ k, k < n → f k < n) → (∀ i j, i < n → j < n → f i = f j → i = j) → ∀ p, p < n → ∃ j, j < n ∧ f j = p
  | 0, _, _, _, p, hp => absurd hp (by omega)
  | n + 1, f, h1, h2, p, hp => by
    have ih := surjN n (fun k => if f k = n then f n else f k) (fun k hk => by
      have a1 := h1 k (by omega)
      have a2 := h1 n (by omega)
      split
      · next e =>
        have : f n ≠ n := fun z => by have := h2 k n (by omega) (by omega) (by omega); omega
        omega
      · omega) (fun i j hi hj e => by
      by_cases e1 : f i = n <;> by_cases e2 : f j = n
      · exact h2 i j (by omega) (by omega) (by omega)
      · rw [if_pos e1, if_neg e2] at e
        have := h2 n j (by omega) (by omega) e
        omega
      · rw [if_neg e1, if_pos e2] at e
        have := h2 i n (by omega) (by omega) e
        omega
      · rw [if_neg e1, if_neg e2] at e
        exact h2 i j (by omega) (by omega) e)
    by_cases hpn : p < n
    · obtain ⟨j, hj, e⟩ := ih p hpn
      by_cases e1 : f j = n
      · rw [if_pos e1] at e; exact ⟨n, by omega, e⟩
      · rw [if_neg e1] at e; exact ⟨j, by omega, e⟩
    · have hpe : p = n := by omega
      subst hpe
      by_cases hv : f p = p
      · exact ⟨p, by omega, hv⟩
      · have hlt : f p < p := by have := h1 p (by omega); omega
        obtain ⟨j, hj, e⟩ := ih (f p) hlt
        by_cases e1 : f j = p
        · exact ⟨j, by omega, e1⟩
        · rw [if_neg e1] at e
          have := h2 j p (by omega) (by omega) e
          omega
theorem surj10 {π : Nat → Nat} (hp : piOK Q π) : ∀ p, p < 10 → ∃ j, j < 10 ∧ π j = p := surjN 10 π (fun k hk => (hp.1 k hk).2) hp.2
/-- the physical lines behind painting -/
theorem ph_of {I I' : Nat → Nat → Int32} {π : Nat → Nat} {W ls : List (List Int32)} (hp : piOK Q π) (h : phOK I) (hl : ls.length ≤ 10) (hpd : ∀ j, j < ls.length → pdIs I' π W ls j) (ho : ∀ j, ls.length ≤ j → j < 10 → ∀ c, 6 + 7 * π j ≤ c → c < 6 + 7 * π j + 7 → I' c = I c) : phOK I' := by
  intro p hp10
  obtain ⟨j, hj, rfl⟩ := surj10 hp p hp10
  by_cases q : j < ls.length
  · right
    exact ⟨(hpd j q).2.2, _, stAt_ok W ls (j + 1), (hpd j q).2.1⟩
  · have e := ho j (by omega) hj
    rcases h (π j) hp10 with z | ⟨z, E, z1, z2⟩
    · left; rw [e _ (by omega) (by omega)]; exact z
    · right; exact ⟨by rw [e _ (by omega) (by omega)]; exact z, E, z1, z2.fr (e _ (by omega) (by omega)) (e _ (by omega) (by omega))⟩
theorem anewN_le (W ls : List (List Int32)) (nw : Nat → Bool) (E : Nat → List Nat × Nat) (f l : Nat) : anewN W ls nw E f l ≤ ls.length := by
  have := anewP_le (fun j => !nw j && decide (stAt W ls (j + 1) = E j)) l (ls.length - f) f
  unfold anewN
  omega
/-- a change is kept, the page changed and painted, the count written: the class holds the new state -/
theorem RC.chg {I1 I2 I3 : Nat → Nat → Int32} {π π' : Nat → Nat} {nx nx' : Nat} {Z : ZS} {an : Nat} (rc : RC I π nx S) (hv : SV S) (hpl : ∀ k, k < 10 → π k < 10)
    (h1 : hsIs I1 nx' ((S.2.1 :: S.2.2.1).take 5)) (f1 : Fr (fun c => 92 ≤ c ∧ c < 269) I I1)
    (f2 : Fr givS I1 I2 ∨ Fr (fun c => givS c ∨ (6 ≤ c ∧ c < 76)) I1 I2) (r2 : pgIs I2 π' Z.1) (rw2 : wdIs I2 76 78 Z.2.1) (rr2 : rlIs I2 86 87 88 Z.2.2) (hz : zV Z)
    (f3 : Fr inkS I2 I3) (hpd : ∀ j, j < Z.1.length → pdIs I3 π' Z.2.1 Z.1 j) (hph : phOK I3) (hpl' : ∀ k, k < 10 → π' k < 10) : RC (u2 I3 1 4 (nI an)) π' nx' (chS S Z an) := by
  obtain ⟨r1, -, -, -, r5, r6, r7, r8, r9⟩ := rc
  have hz10 := hz.1.1
  have hz4 := hz.2.1.1
  have e3 : ∀ c, c ≠ 1 → u2 I3 1 4 (nI an) c = I3 c := fun c q => Fr_u2 c q
  have f2' : Fr (fun c => givS c ∨ (6 ≤ c ∧ c < 76)) I1 I2 := by
    rcases f2 with q | q
    · exact q.wk (fun c z => Or.inl z)
    · exact q
  -- what nothing of it writes
  have es : ∀ c, (c = 2 ∨ c = 3 ∨ c = 269) → u2 I3 1 4 (nI an) c = I c := by
    intro c hc
    rw [e3 c (by omega), f3 c (by omega), f2' c (by omega), f1 c (by omega)]
  have eh : ∀ c, 92 ≤ c → c < 269 → u2 I3 1 4 (nI an) c = I1 c := by
    intro c q1 q2
    rw [e3 c (by omega), f3 c (by omega), f2' c (by omega)]
  have hkv : ∀ d, d < ((S.2.1 :: S.2.2.1).take 5).length → zV (((S.2.1 :: S.2.2.1).take 5).getD d ([], [], [])) := by
    intro d hd
    have hd5 : d < 5 ∧ d < S.2.2.1.length + 1 := by simp at hd; omega
    rw [show ((S.2.1 :: S.2.2.1).take 5).getD d ([], [], []) = (S.2.1 :: S.2.2.1).getD d ([], [], []) by simp only [List.getD_eq_getElem?_getD, List.getElem?_take, hd5.1, if_true]]
    match d, hd5 with
    | 0, _ => exact hv.2.1
    | d + 1, hd5 => exact hv.2.2.1.2 d (by omega)
  refine ⟨r1.fr (es 2 (by omega)) (es 3 (by omega)), ⟨?_, fun k hk => ?_⟩, ?_, ?_, ⟨?_, ?_, h1.2.2.1, fun d hd => ?_⟩, u2_same, ?_, fun k hk => ?_, ?_⟩
  · rw [e3 4 (by omega), f3 4 (by omega)]; exact r2.1
  · have hk10 : k < 10 := by have : k < Z.1.length := hk; omega
    have hk' := hpl' k hk10
    exact (r2.2 k hk).fr ((e3 _ (by omega)).trans (f3 _ (by omega))) ((e3 _ (by omega)).trans (f3 _ (by omega)))
  · exact rw2.fr hz4 ((e3 _ (by omega)).trans (f3 _ (by omega))) (fun c _ _ => (e3 _ (by omega)).trans (f3 _ (by omega)))
  · exact rr2.fr ((e3 _ (by omega)).trans (f3 _ (by omega))) ((e3 _ (by omega)).trans (f3 _ (by omega))) ((e3 _ (by omega)).trans (f3 _ (by omega)))
  · rw [eh 92 (by omega) (by omega)]; exact h1.1
  · rw [eh 92 (by omega) (by omega)]; exact h1.2.1
  · exact (h1.2.2.2 d hd).fr (hkv d hd) (fun c q1 q2 => eh c (by omega) (by omega))
  · rw [es 269 (by omega)]; exact r7
  · have hk10 : k < 10 := by have : k < Z.1.length := hk; omega
    have hk' := hpl' k hk10
    exact (hpd k hk).fr (fun c q1 q2 => e3 c (by omega))
  · exact hph.fr (fun c q1 q2 => e3 c (by omega))
theorem SV.ch {Z : ZS} {an : Nat} (hv : SV S) (hz : zV Z) (ha : an ≤ 10) : SV (chS S Z an) := by
  refine ⟨hv.1, hz, ⟨by simp [chS]; omega, fun d hd => ?_⟩, ha⟩
  have hd5 : d < 5 ∧ d < S.2.2.1.length + 1 := by simp [chS] at hd; omega
  show zV (((S.2.1 :: S.2.2.1).take 5).getD d ([], [], []))
  rw [show ((S.2.1 :: S.2.2.1).take 5).getD d ([], [], []) = (S.2.1 :: S.2.2.1).getD d ([], [], []) by simp only [List.getD_eq_getElem?_getD, List.getElem?_take, hd5.1, if_true]]
  match d, hd5 with
  | 0, _ => exact hv.2.1
  | d + 1, hd5 => exact hv.2.2.1.2 d (by omega)
/-- keeping a state and painting: the common course of a change; 'mid' is what is done between -/
theorem pre_same {π : Nat → Nat} {nx : Nat} {ls' : List (List Int32)} {k : Nat} (rc : RC I π nx S) (hv : SV S) (hlen : ls'.length = S.2.1.1.length) (hk : k < S.2.1.1.length) (heq : ∀ j, j ≠ k → ls'.getD j [] = S.2.1.1.getD j []) : preRp I π S.2.1.2.1 ls' (fun _ => false) (fun j => stAt S.2.1.2.1 S.2.1.1 (j + 1)) k k := by
  obtain ⟨r1, r2, r3, r4, r5, r6, r7, r8, r9⟩ := rc
  have hst : ∀ j, j ≤ k → stAt S.2.1.2.1 ls' j = stAt S.2.1.2.1 S.2.1.1 j := by
    intro j
    induction j with
    | zero => intro _; rfl
    | succ j ih => intro hj; simp only [stAt]; rw [ih (by omega), heq j (by omega)]
  refine ⟨fun j hj => ?_, fun j h1 h2 => ⟨?_, fun _ => ?_⟩, fun j h1 h2 h3 _ => ⟨rfl, ?_, ?_⟩⟩
  · have := r8 j (by omega)
    unfold pdIs at this ⊢
    rw [heq j (by omega), hst j (by omega), hst (j + 1) (by omega)]
    exact this
  · rw [(r8 j (by omega)).2.2]; rfl
  · exact (r8 j (by omega)).2.1
  · have := (r8 (j + 1) (by omega)).1
    rw [heq (j + 1) (by omega)]
    exact this
  · rw [heq (j + 1) (by omega)]
    rfl
theorem lset_getD {α : Type} {l : List α} {k j : Nat} {x d : α} : (l.set k x).getD j d = if k = j ∧ k < l.length then x else l.getD j d := by
  simp only [List.getD_eq_getElem?_getD, List.getElem?_set]
  by_cases e : k = j
  · subst e
    by_cases q : k < l.length
    · simp [q]
    · simp [q]
  · simp [e]
theorem lsV_set {ls : List (List Int32)} {k : Nat} {l : List Int32} (h : lsV ls) (hl : l.length ≤ 30) : lsV (ls.set k l) := by
  refine ⟨by rw [List.length_set]; exact h.1, fun j hj => ?_⟩
  rw [List.length_set] at hj
  rw [lset_getD]
  split
  · exact hl
  · exact h.2 j hj
/-- a line's bytes become others: from the page's rows on -/
theorem C_setLine {π : Nat → Nat} {nx nx' k : Nat} {l : List Int32} {I1 I2 : Nat → Nat → Int32} (g : gOK w Q) (hp : piOK Q π) (rc : RC I π nx S) (hv : SV S) (hk : k < S.2.1.1.length) (hl : l.length ≤ 30) (h1 : hsIs I1 nx' ((S.2.1 :: S.2.2.1).take 5)) (f1 : Fr (fun c => 92 ≤ c ∧ c < 269) I I1) (hr : rowIs I2 (6 + 7 * π k + 1) (6 + 7 * π k + 2) l) (f2 : Fr (fun c => c = 6 + 7 * π k + 1 ∨ c = 6 + 7 * π k + 2) I1 I2) : ∃ I3, CS w (u2 I3 1 4 (nI (anewN S.2.1.2.1 (S.2.1.1.set k l) (fun _ => false) (fun j => stAt S.2.1.2.1 S.2.1.1 (j + 1)) k k))) Q (setS k l S) ∧ Fr (fun c => inkS c) I2 I3 ∧ (I3 (6 + 7 * π k + 1) = I2 (6 + 7 * π k + 1)) ∧ ∀ K, (WP mX3_repaint 0 [.ref 4, .int (nI k), .int (nI k), .null, .null, .null, .null] [] w (I2, Q, J) K ↔ K (some (.int (nI (anewN S.2.1.2.1 (S.2.1.1.set k l) (fun _ => false) (fun j => stAt S.2.1.2.1 S.2.1.1 (j + 1)) k k)))) w (I3, Q, J)) := by
  obtain ⟨r1, r2, r3, r4, r5, r6, r7, r8, r9⟩ := id rc
  have hl10 := hv.2.1.1.1
  have hk10 : k < 10 := by omega
  have hpk := (hp.1 k hk10).2
  have e12 : ∀ c, (c < 92 ∨ 269 ≤ c) → c ≠ 6 + 7 * π k + 1 → c ≠ 6 + 7 * π k + 2 → I2 c = I c := fun c q1 q2 q3 => (f2 c (by omega)).trans (f1 c (by omega))
  have hZ : zV (S.2.1.1.set k l, S.2.1.2) := ⟨lsV_set hv.2.1.1 hl, hv.2.1.2⟩
  have pg2 : pgIs I2 π (S.2.1.1.set k l) := by
    refine ⟨by rw [List.length_set, e12 4 (by omega) (by omega) (by omega)]; exact r2.1, fun j hj => ?_⟩
    rw [List.length_set] at hj
    rw [lset_getD]
    by_cases e : k = j
    · subst e; rw [if_pos ⟨rfl, hk⟩]; exact hr
    · rw [if_neg (fun z => e z.1)]
      have hj10 := (hp.1 j (by omega)).2
      have hne : π j ≠ π k := fun z => e (hp.2 j k (by omega) hk10 z).symm
      exact (r2.2 j hj).fr (e12 _ (by omega) (by omega) (by omega)) (e12 _ (by omega) (by omega) (by omega))
  have w2 : wdIs I2 76 78 S.2.1.2.1 := r3.fr hv.2.1.2.1.1 (e12 _ (by omega) (by omega) (by omega)) (fun c _ _ => e12 _ (by omega) (by omega) (by omega))
  have rl2 : rlIs I2 86 87 88 S.2.1.2.2 := r4.fr (e12 _ (by omega) (by omega) (by omega)) (e12 _ (by omega) (by omega) (by omega)) (e12 _ (by omega) (by omega) (by omega))
  have pre := pre_same (ls' := S.2.1.1.set k l) rc hv (by rw [List.length_set]) hk (fun j hj => by rw [lset_getD, if_neg (fun z => hj z.1.symm)])
  have pre2 : preRp I2 π S.2.1.2.1 (S.2.1.1.set k l) (fun _ => false) (fun j => stAt S.2.1.2.1 S.2.1.1 (j + 1)) k k := by
    obtain ⟨p1, p2, p3⟩ := pre
    have e7 : ∀ j, j < S.2.1.1.length → ∀ c, c = 6 + 7 * π j ∨ c = 6 + 7 * π j + 3 ∨ c = 6 + 7 * π j + 4 ∨ c = 6 + 7 * π j + 5 ∨ c = 6 + 7 * π j + 6 → I2 c = I c := fun j hj c hc => by
      have hj10 := (hp.1 j (by omega)).2
      exact e12 c (by omega) (by omega) (by omega)
    refine ⟨fun j hj => ?_, fun j q1 q2 => ?_, fun j q1 q2 q3 q4 => ?_⟩
    · have := p1 j hj
      have ee := e7 j (by omega)
      exact ⟨this.1.fr (ee _ (by omega)) (ee _ (by omega)), this.2.1.fr (ee _ (by omega)) (ee _ (by omega)), by rw [ee _ (by omega)]; exact this.2.2⟩
    · have := p2 j q1 q2
      rw [List.length_set] at q2
      have ee := e7 j q2
      exact ⟨by rw [ee _ (by omega)]; exact this.1, fun z => (this.2 z).fr (ee _ (by omega)) (ee _ (by omega))⟩
    · have := p3 j q1 q2 q3 q4
      rw [List.length_set] at q3
      have ee := e7 (j + 1) q3
      exact ⟨this.1, this.2.1.fr (ee _ (by omega)) (ee _ (by omega)), this.2.2⟩
  obtain ⟨I3, k1, k2, k3⟩ := c_repaint (J := J) g hp hZ.1 hv.2.1.2.1 (fun _ => false) (fun j => stAt S.2.1.2.1 S.2.1.1 (j + 1)) (fun j => stAt_ok _ _ _) (first := k) (last := k) (by omega) (by rw [List.length_set]; omega) pg2 w2 pre2
  have ph2 : phOK I2 := by
    intro p hp10
    have := r9 p hp10
    have ee : ∀ c, c = 6 + 7 * p ∨ c = 6 + 7 * p + 5 ∨ c = 6 + 7 * p + 6 → I2 c = I c := fun c hc => e12 c (by omega) (by omega) (by omega)
    rcases this with z | ⟨z, E, z1, z2⟩
    · left; rw [ee _ (by omega)]; exact z
    · right; exact ⟨by rw [ee _ (by omega)]; exact z, E, z1, z2.fr (ee _ (by omega)) (ee _ (by omega))⟩
  have ph3 : phOK I3 := ph_of hp ph2 (by rw [List.length_set]; omega) k1 k2.2
  refine ⟨I3, ⟨g, hv.ch hZ (Nat.le_trans (anewN_le _ _ _ _ _ _) (by rw [List.length_set]; omega)), π, nx', hp, ?_⟩, k2.1, k2.1 _ (by omega), k3⟩
  exact rc.chg hv (fun k hk => (hp.1 k hk).2) h1 f1 (Or.inr (f2.wk (fun c z => by omega))) pg2 w2 rl2 hZ k2.1 k1 ph3 (fun k hk => (hp.1 k hk).2)
end C3
