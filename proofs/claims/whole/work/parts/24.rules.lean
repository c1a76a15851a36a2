/-! ===== rules: a table against the rules as they came ===== -/
abbrev RU : Type := Int32 × Int32 × Int32
abbrev fitsR (r : RU) (c m : Nat) : Prop := (r.1 = -1 ∨ r.1 = nI c) ∧ (r.2.1 = -1 ∨ r.2.1 = nI m)
def worthR (r : RU) : Nat := 1 + (if r.1 = -1 then 0 else 2) + (if r.2.1 = -1 then 0 else 1)
def stpR (r : RU) (o : Nat × Int32) (c m : Nat) : Nat × Int32 := if fitsR r c m ∧ o.1 ≤ worthR r then (worthR r, r.2.2) else o
theorem stpR_pos {r : RU} {o : Nat × Int32} {c m : Nat} (h : fitsR r c m ∧ o.1 ≤ worthR r) : stpR r o c m = (worthR r, r.2.2) := by unfold stpR; rw [if_pos h]
theorem stpR_neg {r : RU} {o : Nat × Int32} {c m : Nat} (h : ¬ (fitsR r c m ∧ o.1 ≤ worthR r)) : stpR r o c m = o := by unfold stpR; rw [if_neg h]
def shF (R : List RU) (c m : Nat) : Nat × Int32 := R.foldl (fun o r => stpR r o c m) (0, 0)
theorem shF_app (R : List RU) (r : RU) (c m : Nat) : shF (R ++ [r]) c m = stpR r (shF R c m) c m := by simp [shF]
theorem worthR_le (r : RU) : 1 ≤ worthR r ∧ worthR r ≤ 4 := by unfold worthR; split <;> split <;> omega
theorem shF_le (R : List RU) (c m : Nat) : (shF R c m).1 ≤ 4 := by
  have : ∀ (R : List RU) (o : Nat × Int32), o.1 ≤ 4 → (R.foldl (fun o r => stpR r o c m) o).1 ≤ 4 := by
    intro R
    induction R with
    | nil => intro o h; exact h
    | cons r R ih =>
      intro o h
      rw [List.foldl_cons]
      apply ih
      by_cases hf : fitsR r c m ∧ o.1 ≤ worthR r
      · rw [stpR_pos hf]; exact (worthR_le r).2
      · rw [stpR_neg hf]; exact h
  exact this R (0, 0) (by decide)
def rlOK (w : WS) (Q : Nat → Nat → Option Nat) (a s t : Nat) : Prop := w.1 a = (6, 0) ∧ Q a 0 = some s ∧ Q a 1 = some t ∧ w.1 s = (20, 24) ∧ w.1 t = (20, 24) ∧ s ≠ 0 ∧ t ≠ 0 ∧ s ≠ t ∧ a ≠ s ∧ a ≠ t
def tabIs (I : Nat → Nat → Int32) (s t : Nat) (f : Nat → Nat → Nat × Int32) : Prop := ∀ c, c < 8 → ∀ m, m < 3 → I s (c * 3 + m) = (f c m).2 ∧ I t (c * 3 + m) = nI ((f c m).1 - 1)
def rlIs (I : Nat → Nat → Int32) (a s t : Nat) (R : List RU) : Prop := I a 2 = nI R.length ∧ tabIs I s t (shF R)
theorem tabIs.fr {I I' : Nat → Nat → Int32} {s t : Nat} {f : Nat → Nat → Nat × Int32} (h : tabIs I s t f) (hs : I' s = I s) (ht : I' t = I t) : tabIs I' s t f := fun c hc m hm => by rw [hs, ht]; exact h c hc m hm
theorem rlIs.fr {I I' : Nat → Nat → Int32} {a s t : Nat} {R : List RU} (h : rlIs I a s t R) (ha : I' a = I a) (hs : I' s = I s) (ht : I' t = I t) : rlIs I' a s t R := ⟨by rw [ha]; exact h.1, h.2.fr hs ht⟩
section RL
variable {w : WS} {I : Nat → Nat → Int32} {Q : Nat → Nat → Option Nat} {J : Nat → Nat → Int64} {K : Option Value → WS → HS → Prop} {a s t b q u : Nat} {R : List RU}
theorem c_shadeOf {c m : Nat} (ok : rlOK w Q a s t) (r : rlIs I a s t R) (hc : c < 8) (hm : m < 3) : WP mX6_shadeOf 0 [.ref a, .int (nI c), .int (nI m), .null] [] w (I, Q, J) K ↔ K (some (.int (shF R c m).2)) w (I, Q, J) := by
  obtain ⟨o1, o2, o3, o4, o5, o6, o7, o8, o9, o10⟩ := ok
  have e : nI c * 3 + nI m = nI (c * 3 + m) := by rw [show (3 : Int32) = nI 3 from rfl, pk_mul, nI_add]
  simp only [rX6_shadeOf_0, rX6_shadeOf_1, rX6_shadeOf_2, rX6_shadeOf_3, rX6_shadeOf_4, rX6_shadeOf_5, rX6_shadeOf_6, rX6_shadeOf_7, rX6_shadeOf_10, rX6_shadeOf_11, rX6_shadeOf_12, rX6_shadeOf_15, rX6_shadeOf_16, rX6_shadeOf_19, rX6_shadeOf_20, rX6_shadeOf_23, rX6_shadeOf_24, rX6_shadeOf_25, rX6_shadeOf_28, rX6_shadeOf_29, o1, o2, o4, true_and, rf_some, e, nI_pos (show c * 3 + m < 2 ^ 31 by omega), if_false, true_or]
  rw [if_neg (nI_ge (show c * 3 + m < 24 by omega) (by decide))]
  simp only [vin_nI (show c * 3 + m < 24 by omega) (by decide), true_and, nI_clamp (show c * 3 + m < 2 ^ 31 by omega), (r.2 c hc m hm).1]
theorem c_rlCopy (ok : rlOK w Q a s t) (ok2 : rlOK w Q b q u) (r : rlIs I b q u R) (hd : a ≠ b ∧ s ≠ b ∧ t ≠ b ∧ s ≠ q ∧ s ≠ u ∧ t ≠ q ∧ t ≠ u) : ∃ I', rlIs I' a s t R ∧ Fr (fun c => c = a ∨ c = s ∨ c = t) I I' ∧ ∀ K, (WP mX6_copyFrom 0 [.ref a, .ref b] [] w (I, Q, J) K ↔ K none w (I', Q, J)) := by
  obtain ⟨o1, o2, o3, o4, o5, o6, o7, o8, o9, o10⟩ := ok
  obtain ⟨p1, p2, p3, p4, p5, p6, p7, p8, p9, p10⟩ := ok2
  have ho : ∀ c m, c < 8 → m < 3 → c * 3 + m < 24 := fun c m hc hm => by omega
  refine ⟨u2 (uA (uA I s (va_cpy (I q) (I s) 0 0 24)) t (va_cpy (I u) (I t) 0 0 24)) a 2 (nI R.length), ⟨by rw [u2_same], fun c hc m hm => ?_⟩, ?_, fun K => ?_⟩
  · have := ho c m hc hm
    rw [u2_ne (Or.inl (fun z => o9 z.symm)), u2_ne (Or.inl (fun z => o10 z.symm)), uA_ne o8, uA_same, uA_same, pk_cpy_in (Nat.zero_le _) (by omega), pk_cpy_in (Nat.zero_le _) (by omega)]
    simp only [Nat.zero_add, Nat.sub_zero]
    exact r.2 c hc m hm
  · exact Fr.tr (Fr.tr (S := fun c => c = a ∨ c = s ∨ c = t) Fr_uA Fr_uA (fun c z => Or.inr (Or.inl z)) (fun c z => Or.inr (Or.inr z))) Fr_u2 (fun c z => z) (fun c z => Or.inl z)
  · have c24 : (24 : Int32).toNatClampNeg = 24 := by decide
    have n24 : ¬ (24 : Int32) < 0 := by decide
    have e1 : uA I s (va_cpy (I q) (I s) 0 0 24) u = I u := Fr_uA u (fun z => hd.2.2.2.2.1 z.symm)
    have e2 : uA I s (va_cpy (I q) (I s) 0 0 24) t = I t := Fr_uA t (fun z => o8 z.symm)
    have e3 : uA (uA I s (va_cpy (I q) (I s) 0 0 24)) t (va_cpy (I u) (I t) 0 0 24) b 2 = nI R.length := by
      rw [uA_ne (fun z => hd.2.2.1 z.symm), uA_ne (fun z => hd.2.1 z.symm)]; exact r.1
    simp only [rX6_copyFrom_0, rX6_copyFrom_1, rX6_copyFrom_4, rX6_copyFrom_5, rX6_copyFrom_6, rX6_copyFrom_9, rX6_copyFrom_10, rX6_copyFrom_12, rX6_copyFrom_15, rX6_copyFrom_16, rX6_copyFrom_19, rX6_copyFrom_20, rX6_copyFrom_21, rX6_copyFrom_24, rX6_copyFrom_25, rX6_copyFrom_27, rX6_copyFrom_30, rX6_copyFrom_31, rX6_copyFrom_32, rX6_copyFrom_35, rX6_copyFrom_38, o1, o2, o3, o4, o5, p1, p2, p3, p4, p5, rf_some, true_and, ne_eq, o6, o7, p6, p7, not_false_eq_true, cl0, c24, n24, n00, Nat.zero_add, Nat.le_refl, e1, e2, e3]
theorem fits_if {x1 x2 : Int32} {c m : Nat} {x3 : Int32} {A B : Prop} : (if x1 = -1 then (if x2 = -1 then A else if ¬ x2 = nI m then B else A) else if ¬ x1 = nI c then B else (if x2 = -1 then A else if ¬ x2 = nI m then B else A)) ↔ if fitsR (x1, x2, x3) c m then A else B := by
  unfold fitsR
  by_cases h1 : x1 = -1 <;> by_cases h2 : x2 = -1 <;> by_cases h3 : x1 = nI c <;> by_cases h4 : x2 = nI m <;> simp [h1, h2, h3, h4]
def mixR (r : RU) (c m : Nat) (f : Nat → Nat → Nat × Int32) (c' m' : Nat) : Nat × Int32 := if c' = c ∧ m ≤ m' then stpR r (f c' m') c' m' else f c' m'
theorem stpR_le {r : RU} {o : Nat × Int32} {c m : Nat} (h : o.1 ≤ 4) : (stpR r o c m).1 ≤ 4 := by
  by_cases hz : fitsR r c m ∧ o.1 ≤ worthR r
  · rw [stpR_pos hz]; exact (worthR_le r).2
  · rw [stpR_neg hz]; exact h
/-- only one place is stepped -/
def oneR (r : RU) (c m : Nat) (f : Nat → Nat → Nat × Int32) (c' m' : Nat) : Nat × Int32 := if c' = c ∧ m' = m then stpR r (f c' m') c' m' else f c' m'
theorem mix_one {r : RU} {c m : Nat} {f : Nat → Nat → Nat × Int32} : mixR r c (m + 1) (oneR r c m f) = mixR r c m f := by
  funext c' m'
  unfold mixR oneR
  by_cases e : c' = c
  · subst e
    by_cases e2 : m' = m
    · subst e2; rw [if_neg (by omega), if_pos ⟨rfl, rfl⟩, if_pos (by omega)]
    · rw [if_neg (show ¬ (c' = c' ∧ m' = m) by omega)]
      by_cases e3 : m ≤ m'
      · rw [if_pos (by omega), if_pos (by omega)]
      · rw [if_neg (by omega), if_neg (by omega)]
  · rw [if_neg (by omega), if_neg (by omega), if_neg (by omega)]
theorem mix_end {r : RU} {c : Nat} {f : Nat → Nat → Nat × Int32} {I : Nat → Nat → Int32} (h : tabIs I s t f) : tabIs I s t (mixR r c 3 f) := fun c' hc' m' hm' => by
  unfold mixR
  rw [if_neg (by omega)]
  exact h c' hc' m' hm'
theorem c_add_in {x1 x2 x3 : Int32} {c : Nat} (ok : rlOK w Q a s t) (hc : c < 8) : ∀ n m (f : Nat → Nat → Nat × Int32) (I : Nat → Nat → Int32) (v7 : Value), n + m = 3 → (∀ c m, (f c m).1 ≤ 4) → tabIs I s t f → ∃ (I' : Nat → Nat → Int32) (v' : Value), tabIs I' s t (mixR (x1, x2, x3) c m f) ∧ Fr (fun z => z = s ∨ z = t) I I' ∧ ∀ K, (WP mX6_add 36 [.ref a, .int x1, .int x2, .int x3, .int (nI (worthR (x1, x2, x3) - 1)), .int (nI c), .int (nI m), v7] [] w (I, Q, J) K ↔ WP mX6_add 126 [.ref a, .int x1, .int x2, .int x3, .int (nI (worthR (x1, x2, x3) - 1)), .int (nI c), .int (nI 3), v'] [] w (I', Q, J) K) := by
  obtain ⟨o1, o2, o3, o4, o5, o6, o7, o8, o9, o10⟩ := ok
  have hw := worthR_le (x1, x2, x3)
  have e10 : ((1 : Int32) = 0) = False := by simp
  intro n
  induction n with
  | zero =>
    intro m f I v7 hm hf ht
    obtain rfl : m = 3 := by omega
    refine ⟨I, v7, mix_end ht, Fr.rf, fun K => ?_⟩
    rw [rX6_add_36]
    simp only [rX6_add_38, rX6_add_39]
    rw [if_pos (by decide)]
  | succ n ih =>
    intro m f I v7 hm hf ht
    have h24 : c * 3 + m < 24 := by omega
    have e3 : nI c * 3 + nI m = nI (c * 3 + m) := by rw [show (3 : Int32) = nI 3 from rfl, pk_mul, nI_add]
    have hv : vin (nI (c * 3 + m)) 24 := vin_nI h24 (by decide)
    have hf1 : ∀ c' m', (oneR (x1, x2, x3) c m f c' m').1 ≤ 4 := fun c' m' => by
      unfold oneR; split
      · exact stpR_le (hf c' m')
      · exact hf c' m'
    by_cases hF : fitsR (x1, x2, x3) c m ∧ (f c m).1 ≤ worthR (x1, x2, x3)
    · obtain ⟨I', v', g1, g2, g3⟩ := ih (m + 1) (oneR (x1, x2, x3) c m f) (u2 (u2 I s (c * 3 + m) x3) t (c * 3 + m) (nI (worthR (x1, x2, x3) - 1))) (.int 1) (by omega) hf1 (fun c' hc' m' hm' => by
        unfold oneR
        by_cases e : c' = c ∧ m' = m
        · obtain ⟨rfl, rfl⟩ := e
          rw [if_pos ⟨rfl, rfl⟩, stpR_pos hF]
          rw [u2_ne (Or.inl o8), u2_same, u2_same]
          exact ⟨rfl, rfl⟩
        · rw [if_neg e]
          have : c' * 3 + m' ≠ c * 3 + m := by omega
          rw [u2_ne (Or.inl o8), u2_ne (Or.inr this), u2_ne (Or.inr this), u2_ne (Or.inl (fun z => o8 z.symm))]
          exact ht c' hc' m' hm')
      rw [mix_one] at g1
      refine ⟨I', v', g1, Fr.tr (Fr.tr (S := fun z => z = s ∨ z = t) Fr_u2 Fr_u2 (fun c z => Or.inl z) (fun c z => Or.inr z)) g2 (fun c z => z) (fun c z => z), fun K => ?_⟩
      rw [rX6_add_36]
      have hlt : ¬ nI (worthR (x1, x2, x3) - 1) < nI ((f c m).1 - 1) := nI_nlt (by omega) (by omega)
      simp only [rX6_add_38, rX6_add_39, rX6_add_42, rX6_add_43, rX6_add_44, rX6_add_47, rX6_add_48, rX6_add_50, rX6_add_53, rX6_add_54, rX6_add_55, rX6_add_58, rX6_add_59, rX6_add_61, rX6_add_64, rX6_add_65, rX6_add_68, rX6_add_69, rX6_add_71, rX6_add_73, rX6_add_76, rX6_add_78, rX6_add_79, rX6_add_82, rX6_add_84, rX6_add_85, rX6_add_86, rX6_add_88, rX6_add_89, rX6_add_90, rX6_add_93, rX6_add_94, rX6_add_97, rX6_add_99, rX6_add_100, rX6_add_101, rX6_add_103, rX6_add_104, rX6_add_105, rX6_add_106, rX6_add_107, rX6_add_110, rX6_add_112, rX6_add_113, rX6_add_114, rX6_add_116, rX6_add_117, rX6_add_119, rX6_add_120, rX6_add_123, o1, o2, o3, o4, o5, true_and, rf_some, e3, hv, nI_clamp (show c * 3 + m < 2 ^ 31 by omega), ne_eq, o6, o7, not_false_eq_true, nI_1, (ht c hc m (by omega)).2, hlt, if_false, if_true, e10]
      rw [if_neg (show ¬ (3 : Int32) ≤ nI m from nI_ge (show m < 3 by omega) (by decide)), fits_if (x3 := x3), if_pos hF.1]
      exact g3 K
    · have e1 : oneR (x1, x2, x3) c m f = f := by
        funext c' m'
        unfold oneR
        split
        · next e => obtain ⟨rfl, rfl⟩ := e; rw [stpR_neg hF]
        · rfl
      have main : ∀ v : Value, ∃ (I' : Nat → Nat → Int32) (v' : Value), tabIs I' s t (mixR (x1, x2, x3) c m f) ∧ Fr (fun z => z = s ∨ z = t) I I' ∧ ∀ K, (WP mX6_add 36 [.ref a, .int x1, .int x2, .int x3, .int (nI (worthR (x1, x2, x3) - 1)), .int (nI c), .int (nI (m + 1)), v] [] w (I, Q, J) K ↔ WP mX6_add 126 [.ref a, .int x1, .int x2, .int x3, .int (nI (worthR (x1, x2, x3) - 1)), .int (nI c), .int (nI 3), v'] [] w (I', Q, J) K) := by
        intro v
        obtain ⟨I', v', g1, g2, g3⟩ := ih (m + 1) f I v (by omega) hf ht
        refine ⟨I', v', ?_, g2, g3⟩
        rw [← mix_one, e1]; exact g1
      by_cases hq : fitsR (x1, x2, x3) c m
      · obtain ⟨I', v', g1, g2, g3⟩ := main (.int 1)
        refine ⟨I', v', g1, g2, fun K => ?_⟩
        rw [rX6_add_36]
        have hlt : nI (worthR (x1, x2, x3) - 1) < nI ((f c m).1 - 1) := nI_lt (by have hn : ¬ (f c m).1 ≤ worthR (x1, x2, x3) := fun z => hF ⟨hq, z⟩; omega) (by have := hf c m; omega)
        simp only [rX6_add_38, rX6_add_39, rX6_add_42, rX6_add_43, rX6_add_44, rX6_add_47, rX6_add_48, rX6_add_50, rX6_add_53, rX6_add_54, rX6_add_55, rX6_add_58, rX6_add_59, rX6_add_61, rX6_add_64, rX6_add_65, rX6_add_68, rX6_add_69, rX6_add_71, rX6_add_73, rX6_add_76, rX6_add_78, rX6_add_79, rX6_add_82, rX6_add_84, rX6_add_85, rX6_add_86, rX6_add_88, rX6_add_89, rX6_add_90, rX6_add_93, rX6_add_94, rX6_add_97, rX6_add_99, rX6_add_100, rX6_add_101, rX6_add_103, rX6_add_104, rX6_add_105, rX6_add_106, rX6_add_107, rX6_add_110, rX6_add_112, rX6_add_113, rX6_add_114, rX6_add_116, rX6_add_117, rX6_add_119, rX6_add_120, rX6_add_123, o1, o2, o3, o4, o5, true_and, rf_some, e3, hv, nI_clamp (show c * 3 + m < 2 ^ 31 by omega), ne_eq, o6, o7, not_false_eq_true, nI_1, (ht c hc m (by omega)).2, hlt, if_false, if_true, e10]
        rw [if_neg (show ¬ (3 : Int32) ≤ nI m from nI_ge (show m < 3 by omega) (by decide)), fits_if (x3 := x3), if_pos hq]
        exact g3 K
      · obtain ⟨I', v', g1, g2, g3⟩ := main (.int 0)
        refine ⟨I', v', g1, g2, fun K => ?_⟩
        rw [rX6_add_36]
        simp only [rX6_add_38, rX6_add_39, rX6_add_42, rX6_add_43, rX6_add_44, rX6_add_47, rX6_add_48, rX6_add_50, rX6_add_53, rX6_add_54, rX6_add_55, rX6_add_58, rX6_add_59, rX6_add_61, rX6_add_64, rX6_add_65, rX6_add_68, rX6_add_69, rX6_add_71, rX6_add_73, rX6_add_76, rX6_add_78, rX6_add_79, rX6_add_82, rX6_add_84, rX6_add_85, rX6_add_86, rX6_add_88, rX6_add_89, rX6_add_90, rX6_add_93, rX6_add_94, rX6_add_97, rX6_add_99, rX6_add_100, rX6_add_101, rX6_add_103, rX6_add_104, rX6_add_105, rX6_add_106, rX6_add_107, rX6_add_110, rX6_add_112, rX6_add_113, rX6_add_114, rX6_add_116, rX6_add_117, rX6_add_119, rX6_add_120, rX6_add_123, o1, o2, o3, o4, o5, true_and, rf_some, e3, hv, nI_clamp (show c * 3 + m < 2 ^ 31 by omega), ne_eq, o6, o7, not_false_eq_true, nI_1, (ht c hc m (by omega)).2, if_false, if_true, e10]
        rw [if_neg (show ¬ (3 : Int32) ≤ nI m from nI_ge (show m < 3 by omega) (by decide)), fits_if (x3 := x3), if_neg hq]
        exact g3 K
/-- rows c .. 7 are stepped -/
def restR (r : RU) (c : Nat) (f : Nat → Nat → Nat × Int32) (c' m' : Nat) : Nat × Int32 := if c ≤ c' then stpR r (f c' m') c' m' else f c' m'
theorem rest_one {r : RU} {c : Nat} {f : Nat → Nat → Nat × Int32} : restR r (c + 1) (mixR r c 0 f) = restR r c f := by
  funext c' m'
  unfold restR mixR
  by_cases e : c' = c
  · subst e; rw [if_neg (by omega), if_pos (by omega), if_pos (by omega)]
  · rw [if_neg (show ¬ (c' = c ∧ 0 ≤ m') by omega)]
    by_cases e3 : c ≤ c'
    · rw [if_pos (by omega), if_pos (by omega)]
    · rw [if_neg (by omega), if_neg (by omega)]
theorem c_add_out {x1 x2 x3 : Int32} (ok : rlOK w Q a s t) : ∀ n c (f : Nat → Nat → Nat × Int32) (I : Nat → Nat → Int32) (v6 v7 : Value), n + c = 8 → (∀ c m, (f c m).1 ≤ 4) → tabIs I s t f → ∃ (I' : Nat → Nat → Int32) (v' v'' : Value), tabIs I' s t (restR (x1, x2, x3) c f) ∧ Fr (fun z => z = s ∨ z = t) I I' ∧ ∀ K, (WP mX6_add 26 [.ref a, .int x1, .int x2, .int x3, .int (nI (worthR (x1, x2, x3) - 1)), .int (nI c), v6, v7] [] w (I, Q, J) K ↔ WP mX6_add 132 [.ref a, .int x1, .int x2, .int x3, .int (nI (worthR (x1, x2, x3) - 1)), .int (nI 8), v', v''] [] w (I', Q, J) K) := by
  intro n
  induction n with
  | zero =>
    intro c f I v6 v7 hm hf ht
    obtain rfl : c = 8 := by omega
    refine ⟨I, v6, v7, fun c' hc' m' hm' => ?_, Fr.rf, fun K => ?_⟩
    · unfold restR; rw [if_neg (by omega)]; exact ht c' hc' m' hm'
    · rw [rX6_add_26]
      simp only [rX6_add_28, rX6_add_30]
      rw [if_pos (by decide)]
  | succ n ih =>
    intro c f I v6 v7 hm hf ht
    obtain ⟨I1, u7, f1, f2, f3⟩ := c_add_in (J := J) (x1 := x1) (x2 := x2) (x3 := x3) (c := c) ok (by omega) 3 0 f I v7 (by omega) hf ht
    obtain ⟨I', v', v'', g1, g2, g3⟩ := ih (c + 1) (mixR (x1, x2, x3) c 0 f) I1 (.int (nI 3)) u7 (by omega) (fun c' m' => by
      unfold mixR; split
      · exact stpR_le (hf c' m')
      · exact hf c' m') f1
    rw [rest_one] at g1
    refine ⟨I', v', v'', g1, Fr.tr f2 g2 (fun c z => z) (fun c z => z), fun K => ?_⟩
    rw [rX6_add_26]
    simp only [rX6_add_28, rX6_add_30, rX6_add_33, rX6_add_34]
    rw [if_neg (show ¬ (8 : Int32) ≤ nI c from nI_ge (show c < 8 by omega) (by decide))]
    have := f3 K
    rw [nI_0] at this
    rw [this]
    simp only [rX6_add_126, rX6_add_129, nI_1]
    exact g3 K
theorem c_rlAdd {x1 x2 x3 : Int32} (ok : rlOK w Q a s t) (r : rlIs I a s t R) (hR : R.length < 12) : ∃ I', rlIs I' a s t (R ++ [(x1, x2, x3)]) ∧ Fr (fun c => c = a ∨ c = s ∨ c = t) I I' ∧ ∀ K, (WP mX6_add 0 [.ref a, .int x1, .int x2, .int x3, .null, .null, .null, .null] [] w (I, Q, J) K ↔ K none w (I', Q, J)) := by
  obtain ⟨o1, o2, o3, o4, o5, o6, o7, o8, o9, o10⟩ := id ok
  obtain ⟨I1, v', v'', g1, g2, g3⟩ := c_add_out (J := J) (x1 := x1) (x2 := x2) (x3 := x3) ok 8 0 (shF R) I .null .null (by omega) (fun c m => shF_le R c m) r.2
  have ea : I1 a = I a := g2 a (by intro z; rcases z with z | z; exact o9 z; exact o10 z)
  refine ⟨u2 I1 a 2 (nI (R.length + 1)), ⟨by rw [u2_same]; simp, fun c hc m hm => ?_⟩, Fr.tr g2 Fr_u2 (fun c z => Or.inr z) (fun c z => Or.inl z), fun K => ?_⟩
  · rw [u2_ne (Or.inl (fun z => o9 z.symm)), u2_ne (Or.inl (fun z => o10 z.symm)), shF_app]
    have := g1 c hc m hm
    unfold restR at this
    rw [if_pos (Nat.zero_le _)] at this
    exact this
  · have e := g3 K
    rw [nI_0] at e
    have hwo : (if x1 = -1 then (if x2 = -1 then (0 : Int32) + 0 else 0 + 1) else (if x2 = -1 then 2 + 0 else 2 + 1)) = nI (worthR (x1, x2, x3) - 1) := by
      unfold worthR
      by_cases h1 : x1 = -1 <;> by_cases h2 : x2 = -1 <;> simp [h1, h2] <;> rfl
    have fin : WP mX6_add 26 [.ref a, .int x1, .int x2, .int x3, .int (nI (worthR (x1, x2, x3) - 1)), .int 0, .null, .null] [] w (I, Q, J) K ↔ K none w (u2 I1 a 2 (nI (R.length + 1)), Q, J) := by
      rw [e]
      simp only [rX6_add_132, rX6_add_133, rX6_add_134, rX6_add_137, rX6_add_138, rX6_add_139, rX6_add_142, o1, true_and, ea, r.1, nI_1]
    rw [← fin, ← hwo]
    simp only [rX6_add_0, rX6_add_1, rX6_add_2, rX6_add_5, rX6_add_6, rX6_add_9, rX6_add_10, rX6_add_11, rX6_add_12, rX6_add_15, rX6_add_16, rX6_add_19, rX6_add_20, rX6_add_21, rX6_add_23, rX6_add_24, rX6_add_28, rX6_add_30, rX6_add_33, rX6_add_34, rX6_add_38, rX6_add_39, rX6_add_42, rX6_add_43, rX6_add_44, rX6_add_47, rX6_add_48, rX6_add_50, rX6_add_53, rX6_add_54, rX6_add_55, rX6_add_58, rX6_add_59, rX6_add_61, rX6_add_64, rX6_add_65, rX6_add_68, rX6_add_69, rX6_add_71, rX6_add_73, rX6_add_76, rX6_add_78, rX6_add_79, rX6_add_82, rX6_add_84, rX6_add_85, rX6_add_86, rX6_add_88, rX6_add_89, rX6_add_90, rX6_add_93, rX6_add_94, rX6_add_97, rX6_add_99, rX6_add_100, rX6_add_101, rX6_add_103, rX6_add_104, rX6_add_105, rX6_add_106, rX6_add_107, rX6_add_110, rX6_add_112, rX6_add_113, rX6_add_114, rX6_add_116, rX6_add_117, rX6_add_119, rX6_add_120, rX6_add_123, rX6_add_126, rX6_add_129, rX6_add_132, rX6_add_133, rX6_add_134, rX6_add_137, rX6_add_138, rX6_add_139, rX6_add_142]
    by_cases h1 : x1 = -1 <;> by_cases h2 : x2 = -1 <;> simp [h1, h2]
end RL
