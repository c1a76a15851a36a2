/-! ===== the class's changes ===== -/
section C3
variable {w : WS} {I : Nat → Nat → Int32} {Q : Nat → Nat → Option Nat} {J : Nat → Nat → Int64} {S : SP}
/-- the physical lines behind painting -/
theorem ph_of {I I' : Nat → Nat → Int32} {π : Nat → Nat} {W ls : List (List Int32)} (hp : piOK Q π) (h : phOK I) (hl : ls.length ≤ 10) (hpd : ∀ j, j < ls.length → pdIs I' π W ls j) (ho : ∀ j, ls.length ≤ j → j < 10 → ∀ c, 6 + 7 * π j ≤ c → c < 6 + 7 * π j + 7 → I' c = I c) (hsur : ∀ p, p < 10 → ∃ j, j < 10 ∧ π j = p) : phOK I' := by
  intro p hp10
  obtain ⟨j, hj, rfl⟩ := hsur p hp10
  by_cases q : j < ls.length
  · right
    exact ⟨(hpd j q).2.2, _, stAt_ok W ls (j + 1), (hpd j q).2.1⟩
  · have e := ho j (by omega) hj
    rcases h (π j) hp10 with z | ⟨z, E, z1, z2⟩
    · left; rw [e _ (by omega) (by omega)]; exact z
    · right; exact ⟨by rw [e _ (by omega) (by omega)]; exact z, E, z1, z2.fr (e _ (by omega) (by omega)) (e _ (by omega) (by omega))⟩
/-- ten different places of ten are all -/
theorem surj10 {π : Nat → Nat} (h1 : ∀ k, k < 10 → π k < 10) (h2 : ∀ i j, i < 10 → j < 10 → π i = π j → i = j) : ∀ p, p < 10 → ∃ j, j < 10 ∧ π j = p := by
  intro p hp
  rcases Classical.em (∃ j, j < 10 ∧ π j = p) with q | q
  · exact q
  · exfalso
    have hnd : (((List.range 10).map π) ++ [p]).Nodup := by
      rw [List.nodup_append]
      refine ⟨?_, by simp, ?_⟩
      · rw [List.nodup_iff_pairwise_ne, List.pairwise_map]
        refine List.Pairwise.imp_of_mem ?_ (List.nodup_iff_pairwise_ne.mp (List.nodup_range (n := 10)))
        intro a b ha hb hab e
        exact hab (h2 a b (List.mem_range.mp ha) (List.mem_range.mp hb) e)
      · intro a ha b hb
        rw [List.mem_singleton] at hb
        subst hb
        obtain ⟨j, hj, rfl⟩ := List.mem_map.mp ha
        intro e
        exact q ⟨j, List.mem_range.mp hj, e⟩
    have hsub : ∀ x ∈ (((List.range 10).map π) ++ [p]), x ∈ List.range 10 := by
      intro x hx
      rcases List.mem_append.mp hx with z | z
      · obtain ⟨j, hj, rfl⟩ := List.mem_map.mp z
        exact List.mem_range.mpr (h1 j (List.mem_range.mp hj))
      · rw [List.mem_singleton] at z; subst z; exact List.mem_range.mpr hp
    have := (List.subset_def.mpr (fun x hx => hsub x hx) |> fun hs => List.Nodup.length_le_of_subset hnd hs)
    simp at this
theorem anewN_le (W ls : List (List Int32)) (nw : Nat → Bool) (E : Nat → List Nat × Nat) (f l : Nat) : anewN W ls nw E f l ≤ ls.length := by
  have := anewP_le (fun j => !nw j && decide (stAt W ls (j + 1) = E j)) l (ls.length - f) f
  unfold anewN
  omega
/-- a change is kept, the page changed and painted, the count written: the class holds the new state -/
theorem RC.chg {I1 I2 I3 : Nat → Nat → Int32} {Q' : Nat → Nat → Option Nat} {π π' : Nat → Nat} {nx nx' : Nat} {Z : ZS} {an : Nat} (rc : RC I π nx S) (hv : SV S) (hpl : ∀ k, k < 10 → π k < 10)
    (h1 : hsIs I1 nx' ((S.2.1 :: S.2.2.1).take 5)) (f1 : Fr (fun c => 92 ≤ c ∧ c < 269) I I1)
    (f2 : Fr givS I1 I2 ∨ Fr (fun c => givS c ∨ (6 ≤ c ∧ c < 76)) I1 I2) (r2 : pgIs I2 π' Z.1) (rw2 : wdIs I2 76 78 Z.2.1) (rr2 : rlIs I2 86 87 88 Z.2.2) (hz : zV Z)
    (f3 : Fr inkS I2 I3) (hpd : ∀ j, j < Z.1.length → pdIs I3 π' Z.2.1 Z.1 j) (hph : phOK I3) (hpl' : ∀ k, k < 10 → π' k < 10) : RC (u2 I3 1 4 (nI an)) π' nx' (chS S Z an) := by
  obtain ⟨r1, -, -, -, r5, r6, r7, r8, r9⟩ := rc
  have hz10 := hz.1.1
  have hz4 := hz.2.1.1
  have e3 : ∀ c, c ≠ 1 → u2 I3 1 4 (nI an) c = I3 c := fun c q => Fr_u2 c q
  have f2' : Fr (fun c => givS c ∨ (6 ≤ c ∧ c < 76)) I1 I2 := by
    rcases f2 with q | q
    · exact q.wk (fun c z => Or.inl z)
    · exact q
  -- what nothing of it writes
  have es : ∀ c, (c = 2 ∨ c = 3 ∨ c = 269) → u2 I3 1 4 (nI an) c = I c := by
    intro c hc
    rw [e3 c (by omega), f3 c (by omega), f2' c (by omega), f1 c (by omega)]
  have eh : ∀ c, 92 ≤ c → c < 269 → u2 I3 1 4 (nI an) c = I1 c := by
    intro c q1 q2
    rw [e3 c (by omega), f3 c (by omega), f2' c (by omega)]
  have hkv : ∀ d, d < ((S.2.1 :: S.2.2.1).take 5).length → zV (((S.2.1 :: S.2.2.1).take 5).getD d ([], [], [])) := by
    intro d hd
    have hd5 : d < 5 ∧ d < S.2.2.1.length + 1 := by simp at hd; omega
    rw [show ((S.2.1 :: S.2.2.1).take 5).getD d ([], [], []) = (S.2.1 :: S.2.2.1).getD d ([], [], []) by simp only [List.getD_eq_getElem?_getD, List.getElem?_take, hd5.1, if_true]]
    match d, hd5 with
    | 0, _ => exact hv.2.1
    | d + 1, hd5 => exact hv.2.2.1.2 d (by omega)
  refine ⟨r1.fr (es 2 (by omega)) (es 3 (by omega)), ⟨?_, fun k hk => ?_⟩, ?_, ?_, ⟨?_, ?_, h1.2.2.1, fun d hd => ?_⟩, u2_same, ?_, fun k hk => ?_, ?_⟩
  · rw [e3 4 (by omega), f3 4 (by omega)]; exact r2.1
  · have hk10 : k < 10 := by have : k < Z.1.length := hk; omega
    have hk' := hpl' k hk10
    exact (r2.2 k hk).fr ((e3 _ (by omega)).trans (f3 _ (by omega))) ((e3 _ (by omega)).trans (f3 _ (by omega)))
  · exact rw2.fr hz4 ((e3 _ (by omega)).trans (f3 _ (by omega))) (fun c _ _ => (e3 _ (by omega)).trans (f3 _ (by omega)))
  · exact rr2.fr ((e3 _ (by omega)).trans (f3 _ (by omega))) ((e3 _ (by omega)).trans (f3 _ (by omega))) ((e3 _ (by omega)).trans (f3 _ (by omega)))
  · rw [eh 92 (by omega) (by omega)]; exact h1.1
  · rw [eh 92 (by omega) (by omega)]; exact h1.2.1
  · exact (h1.2.2.2 d hd).fr (hkv d hd) (fun c q1 q2 => eh c (by omega) (by omega))
  · rw [es 269 (by omega)]; exact r7
  · have hk10 : k < 10 := by have : k < Z.1.length := hk; omega
    have hk' := hpl' k hk10
    exact (hpd k hk).fr (fun c q1 q2 => e3 c (by omega))
  · exact hph.fr (fun c q1 q2 => e3 c (by omega))
theorem SV.ch {Z : ZS} {an : Nat} (hv : SV S) (hz : zV Z) (ha : an ≤ 10) : SV (chS S Z an) := by
  refine ⟨hv.1, hz, ⟨by simp [chS]; omega, fun d hd => ?_⟩, ha⟩
  have hd5 : d < 5 ∧ d < S.2.2.1.length + 1 := by simp [chS] at hd; omega
  show zV (((S.2.1 :: S.2.2.1).take 5).getD d ([], [], []))
  rw [show ((S.2.1 :: S.2.2.1).take 5).getD d ([], [], []) = (S.2.1 :: S.2.2.1).getD d ([], [], []) by simp only [List.getD_eq_getElem?_getD, List.getElem?_take, hd5.1, if_true]]
  match d, hd5 with
  | 0, _ => exact hv.2.1
  | d + 1, hd5 => exact hv.2.2.1.2 d (by omega)
end C3
