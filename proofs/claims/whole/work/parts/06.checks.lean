/-! ===== what the tables say of each entry, counted by the kernel ===== -/
def tb : List Cond := lw_tbl.filter goodWord
theorem at_tb {i : Nat} {w : Cond} (h : lw_tbl[i]? = some w) (hg : goodWord w = true) : w ∈ tb := List.mem_filter.mpr ⟨List.mem_of_getElem? h, hg⟩
theorem lk_mem {α : Type} {j : Nat} {v : α} : ∀ {l : List (Nat × α)}, lk l j = some v → (j, v) ∈ l
  | [], h => by cases h
  | (i, u) :: l, h => by
    unfold lk at h
    split at h
    · next e => subst e; cases h; exact List.mem_cons_self
    · exact List.mem_cons_of_mem _ (lk_mem h)
theorem lk_memD {α : Type} {j oc : Nat} {v : α} {T : List (List (Nat × α))} (h : lk (T.getD oc []) j = some v) : oc < T.length ∧ (j, v) ∈ T.getD oc [] := by
  refine ⟨?_, lk_mem h⟩
  rcases Nat.lt_or_ge oc T.length with q | q
  · exact q
  · rw [List.getD_eq_getElem?_getD, List.getElem?_eq_none q] at h; cases h
def Tn (ci : Nat) : u_T := match ci with
  | 0 => TX0
  | 1 => TX1
  | 2 => TX2
  | 3 => TX3
  | 4 => TX4
  | 5 => TX5
  | 6 => TX6
  | 7 => TX7
  | 8 => TX8
  | 9 => TX9
  | _ => TX10
def tyN (ci : Nat) : Nat → FieldType := match ci with
  | 0 => tyX0
  | 1 => tyX1
  | 2 => tyX2
  | 3 => tyX3
  | 4 => tyX4
  | 5 => tyX5
  | 6 => tyX6
  | 7 => tyX7
  | 8 => tyX8
  | 9 => tyX9
  | _ => tyX10
theorem vw_at : ∀ ci, ci < 11 → vwCl[ci]? = some (Rn ci, Tn ci, nfOf ci)
  | 0, _ => rfl
  | 1, _ => rfl
  | 2, _ => rfl
  | 3, _ => rfl
  | 4, _ => rfl
  | 5, _ => rfl
  | 6, _ => rfl
  | 7, _ => rfl
  | 8, _ => rfl
  | 9, _ => rfl
  | 10, _ => rfl
  | n + 11, h => absurd h (by omega)
theorem nm_ok : ∀ ci, ci < 11 → ∀ a, a < nfOf ci → ∀ b, b < nfOf ci → a ≠ b → (Tn ci a).2.1 ≠ (Tn ci b).2.1
  | 0, _ => nmX0
  | 1, _ => nmX1
  | 2, _ => nmX2
  | 3, _ => nmX3
  | 4, _ => nmX4
  | 5, _ => nmX5
  | 6, _ => nmX6
  | 7, _ => nmX7
  | 8, _ => nmX8
  | 9, _ => nmX9
  | 10, _ => nmX10
  | n + 11, h => absurd h (by omega)
theorem ty_ok : ∀ ci, ci < 11 → ∀ k, k < nfOf ci → parseFieldDescriptor (Tn ci k).2.2.1 = some (tyN ci k)
  | 0, _ => tyX0_ok
  | 1, _ => tyX1_ok
  | 2, _ => tyX2_ok
  | 3, _ => tyX3_ok
  | 4, _ => tyX4_ok
  | 5, _ => tyX5_ok
  | 6, _ => tyX6_ok
  | 7, _ => tyX7_ok
  | 8, _ => tyX8_ok
  | 9, _ => tyX9_ok
  | 10, _ => tyX10_ok
  | n + 11, h => absurd h (by omega)
def gP : List (List Nat) := [[259, 261, 263], [246, 248, 250, 252], [138, 140, 142, 144, 146], [212, 214, 216, 218, 220], [194, 196], [79, 81], [176, 178, 180], [117, 119, 121], [161, 163], [271, 273, 275, 277, 279], [624, 626, 628, 630, 632, 634, 636, 638, 640, 642, 644, 646, 648, 650, 652, 654, 656, 658]]
def chG (ci k : Nat) : Bool := decide ((Tn ci k).1 = Rn ci) && decide ((Tn ci k).2.2.2 = decide (10 ≤ gtg ci k)) && decide (lw_tbl[(gP.getD ci []).getD k 0]? = some (u_lay (Rn ci) (Tn ci) k)) && goodWord (u_lay (Rn ci) (Tn ci) k) && (if gtg ci k % 10 = 0 then decide (tyN ci k = .int) else if gtg ci k % 10 = 1 then decide (tyN ci k = .boolean) else if gtg ci k % 10 = 2 then decide (tyN ci k = .long) else decide (gtg ci k % 10 = 3) && match tyN ci k with | .object _ => true | .array _ => true | _ => false)
set_option maxRecDepth 100000 in
theorem chG_ok : ∀ ci, ci < 11 → ∀ k, k < nfOf ci → chG ci k = true := by decide +kernel
def chF (oc : Nat) (e : Nat × Nat × Nat × Nat) : Bool := decide (lw_tbl[e.2.2.2]? = some (.fieldLink (Rn oc) e.1 (Rn e.2.1) (Tn e.2.1 e.2.2.1).2.1 (Tn e.2.1 e.2.2.1).2.2.1)) && decide (e.2.1 < 11)
set_option maxRecDepth 100000 in
theorem chF_ok : ∀ oc, oc < fT.length → ∀ e ∈ fT.getD oc [], chF oc e = true := by decide +kernel
def chN (oc : Nat) (e : Nat × Nat × Nat × Nat × Nat) : Bool := decide (lw_tbl[e.2.2.1]? = some (.classLink (Rn oc) e.1 (Rn e.2.1))) && decide (lw_tbl[e.2.2.2.1]? = some (.instantiable (Rn e.2.1) (nfOf e.2.1))) && decide (lw_tbl[e.2.2.2.2]? = some (.initialized (Rn e.2.1))) && decide (e.2.1 < 11)
set_option maxRecDepth 100000 in
theorem chN_ok : ∀ oc, oc < nT.length → ∀ e ∈ nT.getD oc [], chN oc e = true := by decide +kernel
def chK (oc : Nat) (e : Nat × Int64 × Nat) : Bool := decide (lw_tbl[e.2.2]? = some (.constantLong (Rn oc) e.1 e.2.1))
set_option maxRecDepth 100000 in
theorem chK_ok : ∀ oc, oc < kT.length → ∀ e ∈ kT.getD oc [], chK oc e = true := by decide +kernel
set_option maxRecDepth 100000 in
theorem cw_ok : mtL.map (fun z => lw_tbl[m_pl z]?) = mtL.map (fun z => some (Cond.code (m_nm z) (m_bc z) (m_ml z) (m_rt z))) := rfl
def chM (z : ME) : Bool := decide ((m_nm z).cls = Rn (m_oc z)) && plainName (m_nm z).cls && decide ((m_nm z).cls ≠ "java/lang/invoke/MethodHandle" ∧ (m_nm z).cls ≠ "java/lang/invoke/VarHandle" ∧ (parseMethodDescriptor (m_nm z).desc).map (fun d => d.parameters.length) = some (m_na z)) && decide (m_in z = 1 → (m_nm z).name = "<init>") && decide (m_ml z ≤ 9) && decide (m_oc z < 11)
set_option maxRecDepth 100000 in
theorem chM_ok : ∀ z ∈ mtL, chM z = true := by decide +kernel
def chC (oc : Nat) (e : Nat × Nat × Nat × Nat × Nat × Nat × Nat) : Bool :=
  if e.2.1 = 4 then decide (lw_tbl[e.2.2.2.1]? = some (.methodLink (Rn oc) e.1 Lib.objectInit))
  else if e.2.1 = 5 then decide (lw_tbl[e.2.2.2.1]? = some (.methodLink (Rn oc) e.1 Lib.Math.max.name))
  else if e.2.1 = 6 then decide (lw_tbl[e.2.2.2.1]? = some (.methodLink (Rn oc) e.1 Lib.Math.min.name))
  else if e.2.1 = 7 then decide (lw_tbl[e.2.2.2.1]? = some (.methodLink (Rn oc) e.1 arraycopyName))
  else match mtL[e.2.2.1]? with
    | none => false
    | some z => decide (lw_tbl[e.2.2.2.2.2.2]? = some (.initialized (m_nm z).cls)) &&
      (if e.2.1 = 0 then decide (lw_tbl[e.2.2.2.1]? = some (.methodLink (Rn oc) e.1 (m_nm z))) && decide (lw_tbl[e.2.2.2.2.1]? = some (.instanceMethod (m_nm z))) && decide (lw_tbl[e.2.2.2.2.2.1]? = some (.selects (m_nm z).cls (m_nm z) (m_nm z)))
       else if e.2.1 = 1 then decide (lw_tbl[e.2.2.2.1]? = some (.methodLink (Rn oc) e.1 (m_nm z))) && decide (lw_tbl[e.2.2.2.2.1]? = some (.static (m_nm z)))
       else if e.2.1 = 2 then decide (lw_tbl[e.2.2.2.1]? = some (.methodLinkNest (Rn oc) e.1 (m_nm z) "PaintedLines")) && decide (lw_tbl[e.2.2.2.2.1]? = some (.static (m_nm z)))
       else if e.2.1 = 3 then decide (lw_tbl[e.2.2.2.1]? = some (.methodLink (Rn oc) e.1 (m_nm z))) && decide (lw_tbl[e.2.2.2.2.1]? = some (.instanceMethod (m_nm z))) && decide ((m_nm z).name = "<init>") && decide (m_rt z = none)
       else false)
set_option maxRecDepth 100000 in
theorem chC_ok : ∀ oc, oc < cT.length → ∀ e ∈ cT.getD oc [], chC oc e = true := by decide +kernel
theorem w_oI : (.instanceMethod Lib.objectInit : Cond) ∈ tb := at_tb (i := 62) (by decide +kernel) (by decide +kernel)
theorem w_oC : (.code Lib.objectInit ⟨#[0xb1]⟩ 1 none : Cond) ∈ tb := at_tb (i := 63) (by decide +kernel) (by decide +kernel)
theorem w_maxS : (.static Lib.Math.max.name : Cond) ∈ tb := at_tb (i := 71) (by decide +kernel) (by decide +kernel)
theorem w_maxC : (.code Lib.Math.max.name Lib.Math.max.code 2 (some .int) : Cond) ∈ tb := at_tb (i := 72) (by decide +kernel) (by decide +kernel)
theorem w_minS : (.static Lib.Math.min.name : Cond) ∈ tb := at_tb (i := 321) (by decide +kernel) (by decide +kernel)
theorem w_minC : (.code Lib.Math.min.name Lib.Math.min.code 2 (some .int) : Cond) ∈ tb := at_tb (i := 322) (by decide +kernel) (by decide +kernel)
theorem w_mI : (.initialized "java/lang/Math" : Cond) ∈ tb := at_tb (i := 45) (by decide +kernel) (by decide +kernel)
theorem w_sI : (.initialized "java/lang/System" : Cond) ∈ tb := at_tb (i := 55) (by decide +kernel) (by decide +kernel)
theorem w_aN : (.native arraycopyName : Cond) ∈ tb := at_tb (i := 299) (by decide +kernel) (by decide +kernel)
theorem w_aS : (.static arraycopyName : Cond) ∈ tb := at_tb (i := 298) (by decide +kernel) (by decide +kernel)
theorem w_arI : (.arrayClass .int : Cond) ∈ tb := at_tb (i := 84) (by decide +kernel) (by decide +kernel)
theorem w_ar2 : (.arrayOver (.object RX2) : Cond) ∈ lw_tbl := List.mem_of_getElem? (i := 92) (by decide +kernel)
theorem w_ar5 : (.arrayOver (.object RX5) : Cond) ∈ lw_tbl := List.mem_of_getElem? (i := 156) (by decide +kernel)
theorem w_ar1 : (.arrayOver (.object RX1) : Cond) ∈ lw_tbl := List.mem_of_getElem? (i := 230) (by decide +kernel)
def nestL : List (Nat × Nat × MethodName) := [(4, 71, yX9_isLetter), (4, 78, yX9_isFigure), (4, 111, yX9_isCapital), (7, 35, yX9_isQuote)]
set_option maxRecDepth 100000 in
theorem nest_in : ∀ q ∈ nestL, Cond.methodLinkNest (Rn q.1) q.2.1 q.2.2 "PaintedLines" ∈ lw_tbl := by
  intro q hq
  simp only [nestL, List.mem_cons, List.not_mem_nil, or_false] at hq
  rcases hq with rfl | rfl | rfl | rfl
  · exact List.mem_of_getElem? (i := 406) (by decide +kernel)
  · exact List.mem_of_getElem? (i := 421) (by decide +kernel)
  · exact List.mem_of_getElem? (i := 432) (by decide +kernel)
  · exact List.mem_of_getElem? (i := 383) (by decide +kernel)
set_option maxRecDepth 100000 in
theorem nest_all : ∀ oc, oc < cT.length → ∀ e ∈ cT.getD oc [], e.2.1 = 2 → ∀ z, mtL[e.2.2.1]? = some z → (oc, e.1, m_nm z) ∈ nestL := by
  have h : ∀ oc, oc < cT.length → ∀ e ∈ cT.getD oc [], (decide (e.2.1 = 2) → (match mtL[e.2.2.1]? with | some z => decide ((oc, e.1, m_nm z) ∈ nestL) | none => true) = true) := by decide +kernel
  intro oc ho e he h2 z hz
  have := h oc ho e he (by simp [h2])
  rw [hz] at this
  simpa using this
