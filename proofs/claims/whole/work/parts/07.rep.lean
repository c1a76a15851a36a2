/-! ===== the small machine's cells in the heap ===== -/
def rho (b base i : Nat) : Nat := if i = 0 then b else base + (i - 1)
def rv (b base : Nat) (v : Value) : Value := match v with | .ref i => .ref (rho b base i) | v => v
theorem rv_cat {b base : Nat} (v : Value) : (rv b base v).category = v.category := by cases v <;> rfl
theorem rv_rf {b base : Nat} (o : Option Nat) : rv b base (va_rf o) = va_rf (o.map (rho b base)) := by cases o <;> rfl
def ent (b base : Nat) (dA : Nat → ClassId) (w : WS) (h : HS) (a : Nat) : va_E :=
  if (w.1 a).1 = 20 then .inl (dA 0, (w.1 a).2, .inl (h.1 a))
  else if (w.1 a).1 = 21 ∨ (w.1 a).1 = 22 ∨ (w.1 a).1 = 23 then .inl (dA ((w.1 a).1 - 20), (w.1 a).2, .inr (.inr (.inr (.inr (fun j => (h.2.1 a j).map (rho b base))))))
  else .inr ((w.1 a).1, (List.range (nfOf (w.1 a).1)).map (fun k => rv b base (rdF h (gtg (w.1 a).1 k) a k)))
def wsO (b base : Nat) (dA : Nat → ClassId) (w : WS) (h : HS) : va_W := (List.range w.2.1).map (fun i => (base + i, ent b base dA w h (i + 1)))
theorem wsO_at {b base : Nat} {dA : Nat → ClassId} {w : WS} {h : HS} {a : Nat} (h0 : a ≠ 0) (hn : a ≤ w.2.1) : (wsO b base dA w h)[a - 1]? = some (rho b base a, ent b base dA w h a) := by
  obtain ⟨i, rfl⟩ : ∃ i, a = i + 1 := ⟨a - 1, by omega⟩
  simp only [wsO, List.getElem?_map, rho, Nat.add_sub_cancel, Nat.add_eq_zero_iff, Nat.one_ne_zero, and_false, if_false]
  rw [List.getElem?_range (by omega)]
  rfl
theorem wsO_ix {b base : Nat} {dA : Nat → ClassId} {w : WS} {h : HS} {k : Nat} {q : Nat × va_E} (hq : (wsO b base dA w h)[k]? = some q) : k < w.2.1 ∧ q = (base + k, ent b base dA w h (k + 1)) := by
  have hk : k < w.2.1 := by
    have := (List.getElem?_eq_some_iff.mp hq).1
    simpa [wsO] using this
  refine ⟨hk, ?_⟩
  have := wsO_at (b := b) (base := base) (dA := dA) (w := w) (h := h) (a := k + 1) (by omega) (by omega)
  rw [Nat.add_sub_cancel, hq] at this
  simpa [rho] using this
theorem wsO_D {b base : Nat} {dA : Nat → ClassId} {w : WS} {h : HS} : va_D (fun q => base ≤ q) (wsO b base dA w h) := by
  refine ⟨fun i j p q hi hj e => ?_, fun k q hk => ?_⟩
  · have h1 := (wsO_ix hi).2; have h2 := (wsO_ix hj).2
    rw [h1, h2] at e
    simpa using e
  · rw [(wsO_ix hk).2]; exact Nat.le_add_right _ _
theorem wsO_set {b base : Nat} {dA : Nat → ClassId} {w : WS} {h h' : HS} {a : Nat} {E : va_E} (h0 : a ≠ 0) (hE : ent b base dA w h' a = E) (ho : ∀ c, c ≠ a → ent b base dA w h' c = ent b base dA w h c) : (wsO b base dA w h).set (a - 1) (rho b base a, E) = wsO b base dA w h' := by
  apply List.ext_getElem?
  intro k
  rw [List.getElem?_set]
  by_cases hk : k < w.2.1
  · by_cases e : a - 1 = k
    · obtain rfl : a = k + 1 := by omega
      have := wsO_at (b := b) (base := base) (dA := dA) (w := w) (h := h') (a := k + 1) (by omega) (by omega)
      rw [Nat.add_sub_cancel] at this
      simp only [Nat.add_sub_cancel, if_true, this, hE]
      rw [if_pos (by simp [wsO]; exact hk)]
    · rw [if_neg e]
      have h1 := wsO_at (b := b) (base := base) (dA := dA) (w := w) (h := h') (a := k + 1) (by omega) (by omega)
      have h2 := wsO_at (b := b) (base := base) (dA := dA) (w := w) (h := h) (a := k + 1) (by omega) (by omega)
      rw [Nat.add_sub_cancel] at h1 h2
      rw [h1, h2, ho (k + 1) (by omega)]
  · have l1 : (wsO b base dA w h).length = w.2.1 := by simp [wsO]
    have l2 : (wsO b base dA w h').length = w.2.1 := by simp [wsO]
    rw [List.getElem?_eq_none (by omega), List.getElem?_eq_none (l := wsO b base dA w h') (by omega)]
    split
    · rw [if_neg (by omega)]
    · rfl
theorem wsO_app {b base : Nat} {dA : Nat → ClassId} {w : WS} {h : HS} {s : Nat × Nat} {k : Nat} : wsO b base dA (alc w s k) h = wsO b base dA w h ++ [(base + w.2.1, ent b base dA (alc w s k) h (w.2.1 + 1))] := by
  simp only [wsO, alc, List.range_succ, List.map_append, List.map_cons, List.map_nil, List.append_cancel_right_eq]
  apply List.map_congr_left
  intro i hi
  have := List.mem_range.mp hi
  have e : (alc w s k).1 (i + 1) = w.1 (i + 1) := if_neg (show ¬ i + 1 = w.2.1 + 1 by omega)
  have e2 : ent b base dA (alc w s k) h (i + 1) = ent b base dA w h (i + 1) := by unfold ent; rw [e]
  exact congrArg (fun z => (base + i, z)) e2
theorem ent_same {b base : Nat} {dA : Nat → ClassId} {w : WS} {h h' : HS} {c : Nat} (h1 : ∀ j, h'.1 c j = h.1 c j) (h2 : ∀ j, h'.2.1 c j = h.2.1 c j) (h3 : ∀ j, h'.2.2 c j = h.2.2 c j) : ent b base dA w h' c = ent b base dA w h c := by
  have e1 : h'.1 c = h.1 c := funext h1
  simp only [ent, e1, h2, rdF, h3]
theorem map_set {α : Type} {N k : Nat} {f f' : Nat → α} {v : α} (h1 : ∀ j, j ≠ k → f' j = f j) (h2 : f' k = v) : (List.range N).map f' = ((List.range N).map f).set k v := by
  apply List.ext_getElem?
  intro j
  rw [List.getElem?_set]
  by_cases hj : j < N
  · by_cases e : k = j
    · subst e
      simp [hj, h2]
    · rw [if_neg e, List.getElem?_map, List.getElem?_map, List.getElem?_range hj]
      simp [h1 j (fun q => e q.symm)]
  · rw [List.getElem?_eq_none (by simp; omega), List.getElem?_eq_none (l := (List.range N).map f) (by simp; omega)]
    split
    · rw [if_neg (by simp; omega)]
    · rfl
theorem ent_obj {b base : Nat} {dA : Nat → ClassId} {w : WS} {h : HS} {a ci : Nat} (hs : w.1 a = (ci, 0)) (hc : ci < 11) : ent b base dA w h a = .inr (ci, (List.range (nfOf ci)).map (fun k => rv b base (rdF h (gtg ci k) a k))) := by
  simp only [ent, hs]
  rw [if_neg (by omega), if_neg (by omega)]
theorem ent_int {b base : Nat} {dA : Nat → ClassId} {w : WS} {h : HS} {a : Nat} (hs : (w.1 a).1 = 20) : ent b base dA w h a = .inl (dA 0, (w.1 a).2, .inl (h.1 a)) := by
  simp only [ent, hs, if_true]
theorem ent_ref {b base : Nat} {dA : Nat → ClassId} {w : WS} {h : HS} {a : Nat} (hs : (w.1 a).1 = 21 ∨ (w.1 a).1 = 22 ∨ (w.1 a).1 = 23) : ent b base dA w h a = .inl (dA ((w.1 a).1 - 20), (w.1 a).2, .inr (.inr (.inr (.inr (fun j => (h.2.1 a j).map (rho b base)))))) := by
  simp only [ent]
  rw [if_neg (by omega), if_pos hs]
/-- the whole picture -/
def RP (b base L : Nat) (xs : Nat → Int32) (D : va_G) (dA : Nat → ClassId) (w : WS) (h : HS) (H : Heap) : Prop :=
  va_P D vwCl (wsO b base dA w h) H ∧ w.1 0 = (20, L) ∧ (∀ j, h.1 0 j = xs j) ∧ (∀ a, w.2.1 < a → w.1 a = (99, 0) ∧ ∀ k, h.1 a k = 0 ∧ h.2.1 a k = none ∧ h.2.2 a k = 0)
theorem RP.live {b base L : Nat} {xs : Nat → Int32} {D : va_G} {dA : Nat → ClassId} {w : WS} {h : HS} {H : Heap} (r : RP b base L xs D dA w h H) {a : Nat} (ha : (w.1 a).1 < 99) : a ≤ w.2.1 := by
  rcases Nat.lt_or_ge w.2.1 a with q | q
  · have := (r.2.2.2 a q).1
    rw [this] at ha
    exact absurd ha (by decide)
  · exact q
theorem RP.obj0 {b base L : Nat} {xs : Nat → Int32} {D : va_G} {dA : Nat → ClassId} {w : WS} {h : HS} {H : Heap} (r : RP b base L xs D dA w h H) {a : Nat} (ha : (w.1 a).1 ≠ 20) : a ≠ 0 := by
  rintro rfl
  rw [r.2.1] at ha
  exact ha rfl
theorem RP.at {b base L : Nat} {xs : Nat → Int32} {D : va_G} {dA : Nat → ClassId} {w : WS} {h : HS} {H : Heap} (r : RP b base L xs D dA w h H) {a : Nat} (ha : (w.1 a).1 < 99) (h0 : a ≠ 0) : (wsO b base dA w h)[a - 1]? = some (rho b base a, ent b base dA w h a) := wsO_at h0 (r.live ha)
/-- ints stored in a cell -/
theorem RP.stI {b base L : Nat} {xs : Nat → Int32} {D : va_G} {dA : Nat → ClassId} {w : WS} {h h' : HS} {H H1 : Heap} (r : RP b base L xs D dA w h H) {a : Nat} (h0 : a ≠ 0) (hl : a ≤ w.2.1) (ho : ∀ c, c ≠ a → ∀ j, h'.1 c j = h.1 c j ∧ h'.2.1 c j = h.2.1 c j ∧ h'.2.2 c j = h.2.2 c j) {E : va_E} (hE : ent b base dA w h' a = E) (hP : va_P D vwCl ((wsO b base dA w h).set (a - 1) (rho b base a, E)) H1) : RP b base L xs D dA w h' H1 := by
  rw [wsO_set h0 hE (fun c hc => ent_same (fun j => (ho c hc j).1) (fun j => (ho c hc j).2.1) (fun j => (ho c hc j).2.2))] at hP
  refine ⟨hP, r.2.1, fun j => ?_, fun c hc => ⟨(r.2.2.2 c hc).1, fun k => ?_⟩⟩
  · rw [(ho 0 (fun q => h0 q.symm) j).1]; exact r.2.2.1 j
  · have := (r.2.2.2 c hc).2 k
    obtain ⟨e1, e2, e3⟩ := ho c (by omega) k
    rw [e1, e2, e3]
    exact this
/-- a new cell -/
theorem RP.new {b base L : Nat} {xs : Nat → Int32} {D : va_G} {dA : Nat → ClassId} {w : WS} {h : HS} {H H1 : Heap} (r : RP b base L xs D dA w h H) {s : Nat × Nat} {k : Nat} (hP : va_P D vwCl (wsO b base dA w h ++ [(base + w.2.1, ent b base dA (alc w s k) h (w.2.1 + 1))]) H1) : RP b base L xs D dA (alc w s k) h H1 := by
  rw [← wsO_app] at hP
  refine ⟨hP, ?_, r.2.2.1, fun c hc => ?_⟩
  · show u1 w.1 (w.2.1 + 1) s 0 = _
    simp only [u1]
    rw [if_neg (by omega)]
    exact r.2.1
  · have hc : w.2.1 + 1 < c := hc
    obtain ⟨h1, h2⟩ := r.2.2.2 c (by omega)
    refine ⟨?_, h2⟩
    show u1 w.1 (w.2.1 + 1) s c = _
    simp only [u1]
    rw [if_neg (by omega)]
    exact h1
/-- the locals -/
def lvO (b base : Nat) (ls : List Value) : List (Nat × Value) := (List.range ls.length).filterMap (fun i => if ls.getD i .null = .null then none else some (i, rv b base (ls.getD i .null)))
theorem lvO_mem {b base : Nat} {ls : List Value} {q : Nat × Value} : q ∈ lvO b base ls ↔ q.1 < ls.length ∧ ls.getD q.1 .null ≠ .null ∧ q.2 = rv b base (ls.getD q.1 .null) := by
  unfold lvO
  rw [List.mem_filterMap]
  constructor
  · rintro ⟨i, hi, h⟩
    split at h
    · cases h
    · next hn => cases h; exact ⟨List.mem_range.mp hi, hn, rfl⟩
  · rintro ⟨h1, h2, h3⟩
    refine ⟨q.1, List.mem_range.mpr h1, ?_⟩
    rw [if_neg h2, ← h3]
def LR (b base : Nat) (rl : Array Slot) (n : Nat) (ls : List Value) : Prop := ls.length = n ∧ lv_has rl n (lvO b base ls)
theorem LR.get {b base n : Nat} {rl : Array Slot} {ls : List Value} (h : LR b base rl n ls) {i : Nat} {u : Value} (hu : ls.getD i .null = u) (h0 : u ≠ .null) : rl[i]? = some (.val (rv b base u)) := by
  have hi : i < ls.length := by
    rcases Nat.lt_or_ge i ls.length with q | q
    · exact q
    · rw [List.getD_eq_getElem?_getD, List.getElem?_eq_none q] at hu
      exact absurd hu.symm h0
  exact h.2.2.2 (i, rv b base u) (lvO_mem.mpr ⟨hi, by rw [hu]; exact h0, by rw [hu]⟩)
theorem getD_set {ls : List Value} {i j : Nat} {v : Value} (hi : i < ls.length) : (ls.set i v).getD j .null = if i = j then v else ls.getD j .null := by
  rw [List.getD_eq_getElem?_getD, List.getElem?_set]
  split
  · rfl
  · rw [List.getD_eq_getElem?_getD]
theorem LR.st1 {b base n : Nat} {rl rl' : Array Slot} {ls : List Value} {i : Nat} {v : Value} (h : LR b base rl n ls) (hi : i < ls.length) (hp : i = 0 ∨ (ls.getD (i - 1) .null).category = 1) (h' : lv_has rl' n ((i, rv b base v) :: (lvO b base ls).filter (fun q => !(q.1 == i) && !(q.1 + 1 == i && q.2.category == 2)))) : LR b base rl' n (ls.set i v) := by
  refine ⟨by rw [List.length_set]; exact h.1, h'.1, h'.2.1, fun q hq => ?_⟩
  obtain ⟨h1, h2, h3⟩ := lvO_mem.mp hq
  rw [List.length_set] at h1
  rw [getD_set hi] at h2 h3
  refine h'.2.2 q ?_
  by_cases e : i = q.1
  · rw [if_pos e] at h3
    obtain ⟨q1, q2⟩ := q
    dsimp only at *
    subst e h3
    exact List.mem_cons_self
  · rw [if_neg e] at h2 h3
    refine List.mem_cons_of_mem _ (List.mem_filter.mpr ⟨lvO_mem.mpr ⟨h1, h2, h3⟩, ?_⟩)
    by_cases e2 : q.1 + 1 = i
    · have hq1 : i - 1 = q.1 := by omega
      have hc : (ls.getD q.1 .null).category = 1 := by
        rcases hp with hp | hp
        · omega
        · rw [hq1] at hp; exact hp
      rw [h3, rv_cat, hc]
      simp
      omega
    · simp
      constructor
      · exact fun q => e q.symm
      · exact Or.inl e2
theorem LR.st2 {b base n : Nat} {rl rl' : Array Slot} {ls : List Value} {i : Nat} {v : Value} (h : LR b base rl n ls) (hi : i + 1 < ls.length) (hp : i = 0 ∨ (ls.getD (i - 1) .null).category = 1) (h' : lv_has rl' n ((i, rv b base v) :: (lvO b base ls).filter (fun q => !(q.1 == i) && (!(q.1 == i + 1) && !(q.1 + 1 == i && q.2.category == 2))))) : LR b base rl' n ((ls.set i v).set (i + 1) .null) := by
  refine ⟨by rw [List.length_set, List.length_set]; exact h.1, h'.1, h'.2.1, fun q hq => ?_⟩
  obtain ⟨h1, h2, h3⟩ := lvO_mem.mp hq
  rw [List.length_set, List.length_set] at h1
  rw [getD_set (by rw [List.length_set]; exact hi), getD_set (by omega)] at h2 h3
  refine h'.2.2 q ?_
  by_cases e0 : i + 1 = q.1
  · rw [if_pos e0] at h2; exact absurd rfl h2
  · rw [if_neg e0] at h2 h3
    by_cases e : i = q.1
    · rw [if_pos e] at h3
      obtain ⟨q1, q2⟩ := q
      dsimp only at *
      subst e h3
      exact List.mem_cons_self
    · rw [if_neg e] at h2 h3
      refine List.mem_cons_of_mem _ (List.mem_filter.mpr ⟨lvO_mem.mpr ⟨h1, h2, h3⟩, ?_⟩)
      by_cases e2 : q.1 + 1 = i
      · have hq1 : i - 1 = q.1 := by omega
        have hc : (ls.getD q.1 .null).category = 1 := by
          rcases hp with hp | hp
          · omega
          · rw [hq1] at hp; exact hp
        rw [h3, rv_cat, hc]
        simp
        omega
      · simp
        exact ⟨fun q => e q.symm, fun q => e0 q.symm, Or.inl e2⟩
theorem expL_len (b base : Nat) : ∀ as : List Value, (lg_sl (as.map (rv b base))).length = (expL as).length
  | [] => rfl
  | v :: vs => by
    have ih := expL_len b base vs
    simp only [lg_sl] at ih ⊢
    simp only [List.map_cons, List.flatMap_cons, List.length_append, rv_cat, expL, ih]
    split <;> simp <;> omega
theorem expL_args (b base : Nat) : ∀ (as : List Value) (i j : Nat) (u : Value), (expL as).getD j .null = u → u ≠ .null → (i + j, rv b base u) ∈ lv_args i (as.map (rv b base))
  | [], i, j, u, h, h0 => by
    simp only [expL] at h
    rw [List.getD_eq_getElem?_getD] at h
    simp at h
    exact absurd h.symm h0
  | v :: vs, i, j, u, h, h0 => by
    simp only [expL] at h
    simp only [List.map_cons, lv_args, rv_cat]
    by_cases hc : v.category = 2
    · rw [if_pos hc] at h ⊢
      match j, h with
      | 0, h => rw [List.getD_cons_zero] at h; subst h; exact List.mem_cons_self
      | 1, h => rw [List.getD_cons_succ, List.getD_cons_zero] at h; exact absurd h.symm h0
      | j + 2, h =>
        rw [List.getD_cons_succ, List.getD_cons_succ] at h
        have := expL_args b base vs (i + 2) j u h h0
        rw [show i + (j + 2) = i + 2 + j by omega]
        exact List.mem_cons_of_mem _ this
    · rw [if_neg hc] at h ⊢
      match j, h with
      | 0, h => rw [List.getD_cons_zero] at h; subst h; exact List.mem_cons_self
      | j + 1, h =>
        rw [List.getD_cons_succ] at h
        have := expL_args b base vs (i + 1) j u h h0
        rw [show i + (j + 1) = i + 1 + j by omega]
        exact List.mem_cons_of_mem _ this
theorem LR.entry {b base n : Nat} {as : List Value} (h : (expL as).length ≤ n) : LR b base ((lg_sl (as.map (rv b base)) ++ List.replicate (n - (lg_sl (as.map (rv b base))).length) Slot.unset).toArray) n (entL n as) := by
  have h1 := lv_entry (as.map (rv b base)) (n := n) (by rw [expL_len]; exact h)
  refine ⟨by simp only [entL, List.length_append, List.length_replicate]; omega, h1.1, h1.2.1, fun q hq => ?_⟩
  obtain ⟨g1, g2, g3⟩ := lvO_mem.mp hq
  refine h1.2.2 q ?_
  have hx : (expL as).getD q.1 .null = (entL n as).getD q.1 .null := by
    simp only [entL, List.getD_eq_getElem?_getD]
    rcases Nat.lt_or_ge q.1 (expL as).length with z | z
    · rw [List.getElem?_append_left z]
    · rw [List.getElem?_append_right z, List.getElem?_eq_none z, List.getElem?_replicate]
      split <;> rfl
  have := expL_args b base as 0 q.1 _ hx g2
  rw [Nat.zero_add, ← g3] at this
  exact this
