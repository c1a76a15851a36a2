/-! ===== calls ===== -/
theorem cat_le (st : List Value) : (st.map fun v => v.category).sum ≤ 2 * st.length := by
  induction st with
  | nil => simp
  | cons v t ih =>
    have : v.category ≤ 2 := by cases v <;> simp [Value.category]
    simp only [List.map_cons, List.sum_cons, List.length_cons]
    omega
theorem cat_rv (b base : Nat) (st : List Value) : ((st.map (rv b base)).map fun v => v.category).sum ≤ 2 * st.length := by
  have := cat_le (st.map (rv b base))
  rwa [List.length_map] at this
section CL
variable {p : Program} {l : Launch} {e : Env} {R : Room} {s : State} {m : MethodId} {args : Array Value} {below : List Frame} {meth : Method} {c : Code} {H : Heap} {locs : List Loc} {cells slots : Nat} {Q : State → Prop}
variable {b base L : Nat} {xs : Nat → Int32} {D : va_G} {dA : Nat → ClassId} {w : WS} {h : HS} {pc : Nat} {rl : Array Slot} {y z : ME} {n0 s0 : Nat} {E : EX}
theorem sm_after {mc ms : Nat} {st0 rest : List Value} {a : Array Value} {o : Option Value × WS × HS} (hr : va_Run p l e R s m args below meth c H locs cells slots mc ms (F0 m pc rl st0) rest (mQc b base L xs D dA o a) (fun q => base ≤ q)) (hS : va_S (fun q => base ≤ q) s.heap H locs)
    (kk : ∀ (H1 : Heap) (locs1 : List Loc), RP b base L xs D dA o.2.1 o.2.2 H1 → va_S (fun q => base ≤ q) s.heap H1 locs1 → W p l e R s m args below meth c H1 locs1 (cells + mc) (slots + ms) Q (F0 m (pc + 3) rl ((o.1.map (rv b base)).toList ++ rest))) : W p l e R s m args below meth c H locs cells slots Q (F0 m pc rl st0) := by
  intro T hT X
  obtain ⟨v, st₀, t, T', L', h0, X', hL, e1, e2, ⟨hv, hrp, hz, hk⟩, st⟩ := hr T hT X
  cases hv
  rw [h0] at hz hk
  obtain ⟨t2, a1, b1⟩ := kk T'.heap (locs ++ L') (by rw [e1]; exact hrp) ⟨Nat.le_trans hS.1 (by rw [e1]; exact hz), fun q h1 h2 => by rw [e1, hk q (Nat.lt_of_lt_of_le h1 hS.1) h2]; exact hS.2.1 q h1 h2, fun q hq => by
      rcases List.mem_append.mp hq with h | h
      · exact hS.2.2 q h
      · exact hL q h⟩ T' rfl X'
  exact ⟨t2, st t2 a1, b1⟩
theorem mPc_blind {as : List Value} : FrameBlind (mPc b base L xs D dA as w h) := fun a U g mk q => ⟨q.1, q.2.1, q.2.2.1.calling, q.2.2.2.1, va_X.moved (u := U) (U := U.calling g mk a) (Vm.Alike.refl U.vm) q.2.2.2.2⟩
theorem mPc_of (C : Cx b base L xs D dA n0 p R s m args meth c y) (r : RP b base L xs D dA w h H) (hS : va_S (fun q => base ≤ q) s.heap H locs) (hz : H.size = base + w.2.1) {as : List Value} : ∀ U : State, U.heap = H → s.WarmedH U.vm → mPc b base L xs D dA as w h (as.map (rv b base)).toArray U := by
  intro U hU hW
  obtain ⟨hx, hb, hml, hown, hts, hK, hin, hf, hlo, hsz, hbl, hX⟩ := C
  refine ⟨rfl, by rw [hU]; exact r, hK.warm hW, by rw [hU]; exact hz, ?_⟩
  rw [hU]
  exact (hX.kept (hS.2.1 b (by omega) (Nat.not_le.mpr hbl))).moved hW.alike
/-- what every call needs -/
theorem cb_of (C : Cx b base L xs D dA n0 p R s m args meth c y) (hz : z ∈ mtL) (hdp : m_dp z + 1 ≤ m_dp y) {i mc ms : Nat} (hini : Cond.initialized (m_nm z).cls ∈ tb) (hl : Cond.methodLink (Rn (m_oc y)) i (m_nm z) ∈ tb) : CallB R s args (Rn (m_oc y)) i (m_nm z) (m_bc z) (m_ml z) (m_rt z) (mws z) (mrm z mc ms) mc ms (m_na z) := by
  obtain ⟨hx, hb, hml, hown, hts, hK, hin, hf, hlo, hsz, hbl, hX⟩ := C
  obtain ⟨k1, k2, k3, k4, k5, k6⟩ := m_ok hz
  refine ⟨rfl, rfl, ?_, ?_, mws_good hz hts, List.mem_cons_self, hts _ (cw_in hz), hts _ hini, ⟨k3.1, k3.2.1⟩, fun sig hs => ?_, hts _ hl⟩
  · show m_dp z + 1 ≤ R.frames; omega
  · show 8 + (m_ml z + 11) + 28 * m_dp z ≤ R.locals; omega
  · have := k3.2.2
    rw [hs] at this
    exact (Option.some.inj this).symm
theorem cn_of (C : Cx b base L xs D dA n0 p R s m args meth c y) (hz : z ∈ mtL) (hdp : m_dp z + 1 ≤ m_dp y) {i mc ms : Nat} (hini : Cond.initialized (m_nm z).cls ∈ tb) (hl : (m_oc y, i, m_nm z) ∈ nestL) : va_CN R s args (Rn (m_oc y)) i (m_nm z) "PaintedLines" (m_bc z) (m_ml z) (m_rt z) (mws z) (mrm z mc ms) mc ms (m_na z) := by
  obtain ⟨hx, hb, hml, hown, hts, hK, hin, hf, hlo, hsz, hbl, hX⟩ := C
  obtain ⟨k1, k2, k3, k4, k5, k6⟩ := m_ok hz
  have g1 : (mrm z mc ms).frames + 1 ≤ R.frames := by show m_dp z + 1 ≤ R.frames; omega
  have g2 : 8 + (m_ml z + 11) + (mrm z mc ms).locals ≤ R.locals := by show 8 + (m_ml z + 11) + 28 * m_dp z ≤ R.locals; omega
  have g3 : ∀ sig, parseMethodDescriptor (m_nm z).desc = some sig → m_na z = sig.parameters.length := fun sig hs => by
    have := k3.2.2
    rw [hs] at this
    exact (Option.some.inj this).symm
  have hnw : va_Nw (.methodLinkNest (Rn (m_oc y)) i (m_nm z) "PaintedLines") s := hK.2.1 (m_oc y, i, m_nm z) hl
  have g4 : (Cond.methodLinkNest (Rn (m_oc y)) i (m_nm z) "PaintedLines").before args s = true := va_Nw.use (w := .methodLinkNest (Rn (m_oc y)) i (m_nm z) "PaintedLines") rfl hnw
  exact ⟨⟨rfl, rfl, g1, g2, mws_good hz hts, List.mem_cons_self⟩, hts _ (cw_in hz), hts _ hini, ⟨k3.1, k3.2.1⟩, g3, g4⟩
/-- a call by whichever row: 'hrun' is the row, with the callee's contract put in -/
theorem sm_cal {o : Option Value × WS × HS} {ls as rest : List Value} {st0 : List Value} (ih : Snd l b base L xs D dA E) (hge : Ge E) (C : Cx b base L xs D dA n0 p R s m args meth c y) (hz : z ∈ mtL) (hh : cal E y z pc ls as rest w h = some o) (hret : Rt b base L xs D dA n0 s0 p l e R s m args below meth c Q y o) (hl : LR b base rl (m_ml y) ls) (r : RP b base L xs D dA w h H) (hS : va_S (fun q => base ≤ q) s.heap H locs) (hc : w.2.1 = n0 + cells) (hs : w.2.2 = s0 + slots)
    (hrun : ∀ (o1 : Option Value × WS × HS), H.size = base + w.2.1 → rest.length ≤ 4 → m_dp z + 1 ≤ m_dp y → Met l (m_nm z) (mws z) (mrm z (o1.2.1.2.1 - w.2.1) (o1.2.1.2.2 - w.2.2)) (mPc b base L xs D dA as w h) (mQc b base L xs D dA o1) (o1.2.1.2.1 - w.2.1) (o1.2.1.2.2 - w.2.2) (fun q => base ≤ q) → cells + (o1.2.1.2.1 - w.2.1) ≤ R.cells ∧ slots + (o1.2.1.2.2 - w.2.2) ≤ R.slots →
      va_Run p l e R s m args below meth c H locs cells slots (o1.2.1.2.1 - w.2.1) (o1.2.1.2.2 - w.2.2) (F0 m pc rl st0) (rest.map (rv b base)) (mQc b base L xs D dA o1 (as.map (rv b base)).toArray) (fun q => base ≤ q)) :
    W p l e R s m args below meth c H locs cells slots Q (F0 m pc rl st0) := by
  obtain ⟨ro, wo, ho⟩ := o
  unfold cal at hh
  rw [gd_some] at hh
  obtain ⟨⟨g1, g2, g3⟩, hh⟩ := hh
  split at hh
  · next rr w' h' hE =>
    have C0 := C
    obtain ⟨hx, hb, hml, hown, hts, hK, hin, hf, hlo, hsz, hbl, hX⟩ := C0
    refine W_size hsz hc r (fun hz2 => ?_)
    have q1 := hge _ _ _ _ _ _ _ _ _ hE
    have q2 := hge _ _ _ _ _ _ _ _ _ hh
    have q3 := hret.1
    have q4 := hret.2.1
    refine sm_after (hrun (rr, w', h') hz2 g1 g3 (met_of ih hge hbl hz g2 hE) ?_) hS (fun H1 locs1 r1 hS1 => ?_)
    · dsimp only at q1 q2 q3 q4 ⊢
      omega
    · have := ih y p e R s m args below meth c Q n0 s0 C (pc + 3) ls (rr.toList ++ rest) w' h' _ hh hret rl H1 locs1 (cells + (w'.2.1 - w.2.1)) (slots + (w'.2.2 - w.2.2)) hl r1 hS1 (by omega) (by omega)
      dsimp only
      have e1 : (rr.map (rv b base)).toList ++ rest.map (rv b base) = (rr.toList ++ rest).map (rv b base) := by
        cases rr <;> simp
      rw [e1]
      exact this
  · cases hh
theorem take_drop_map {n : Nat} {st rest : List Value} {v : Value} (hd : st.drop n = v :: rest) : st.map (rv b base) = ((st.take n).reverse.map (rv b base)).reverse ++ rv b base v :: rest.map (rv b base) := by
  conv => lhs; rw [← List.take_append_drop n st, hd]
  rw [List.map_append, List.map_cons, ← List.map_reverse, List.reverse_reverse]
theorem sm_calV {o : Option Value × WS × HS} {ls st : List Value} {i : Nat} (ih : Snd l b base L xs D dA E) (hge : Ge E) (C : Cx b base L xs D dA n0 p R s m args meth c y) (hz : z ∈ mtL) (hh : calV E y z pc ls st w h = some o) (hret : Rt b base L xs D dA n0 s0 p l e R s m args below meth c Q y o) (hl : LR b base rl (m_ml y) ls) (r : RP b base L xs D dA w h H) (hS : va_S (fun q => base ≤ q) s.heap H locs) (hc : w.2.1 = n0 + cells) (hs : w.2.2 = s0 + slots) (hd : decode (m_bc y) pc = .ok (.invokevirtual i, 3)) (hini : Cond.initialized (m_nm z).cls ∈ tb) (hlk : Cond.methodLink (Rn (m_oc y)) i (m_nm z) ∈ tb) (hinst : Cond.instanceMethod (m_nm z) ∈ tb) (hsel : Cond.selects (m_nm z).cls (m_nm z) (m_nm z) ∈ tb) :
    W p l e R s m args below meth c H locs cells slots Q (F0 m pc rl (st.map (rv b base))) := by
  unfold calV at hh
  simp only [gd_some, popR_some] at hh
  obtain ⟨h1, b', rest, h2, h3, h4⟩ := hh
  have C0 := C
  obtain ⟨hx, hb, hml, hown, hts, hK, hin, hf, hlo, hsz, hbl, hX⟩ := C0
  obtain ⟨k1, k2, k3, k4, k5, k6⟩ := m_ok hz
  refine sm_cal ih hge C hz h4 hret hl r hS hc hs (fun o1 hzz hr4 hdp hM hroom => ?_)
  have hat := r.at (a := b') (by rw [h3]; show m_oc z < 99; omega) (r.obj0 (by rw [h3]; show m_oc z ≠ 20; omega))
  rw [ent_obj h3 k6] at hat
  refine va_runV (As := (st.take (m_na z)).reverse.map (rv b base)) (n := m_na z) (C := (m_nm z).cls) (b := rho b base b') (g := F0 m pc rl (st.map (rv b base))) ⟨hx, hb, hml, hown, hts⟩ hM ⟨cb_of C hz hdp hini hlk, hts _ hinst, hts _ hsel⟩ ⟨mPc_blind, ?_, mPc_of C r hS hzz⟩ rfl ?_ hl.2.1 (take_drop_map h2) (lv_room ?_) hd hroom
  · rw [k1]
    exact va_recv hK.1 r.1 (vw_at _ k6) hat
  · simp only [List.length_map, List.length_reverse, List.length_take]; omega
  · have := cat_rv b base rest; omega
theorem sm_calI {o : Option Value × WS × HS} {ls st : List Value} {i : Nat} (ih : Snd l b base L xs D dA E) (hge : Ge E) (C : Cx b base L xs D dA n0 p R s m args meth c y) (hz : z ∈ mtL) (hh : calV E y z pc ls st w h = some o) (hret : Rt b base L xs D dA n0 s0 p l e R s m args below meth c Q y o) (hl : LR b base rl (m_ml y) ls) (r : RP b base L xs D dA w h H) (hS : va_S (fun q => base ≤ q) s.heap H locs) (hc : w.2.1 = n0 + cells) (hs : w.2.2 = s0 + slots) (hd : decode (m_bc y) pc = .ok (.invokespecial i, 3)) (hini : Cond.initialized (m_nm z).cls ∈ tb) (hlk : Cond.methodLink (Rn (m_oc y)) i (m_nm z) ∈ tb) (hinst : Cond.instanceMethod (m_nm z) ∈ tb) (hnm : (m_nm z).name = "<init>") (hrt : m_rt z = none) :
    W p l e R s m args below meth c H locs cells slots Q (F0 m pc rl (st.map (rv b base))) := by
  unfold calV at hh
  simp only [gd_some, popR_some] at hh
  obtain ⟨h1, b', rest, h2, h3, h4⟩ := hh
  have C0 := C
  obtain ⟨hx, hb, hml, hown, hts, hK, hin, hf, hlo, hsz, hbl, hX⟩ := C0
  obtain ⟨k1, k2, k3, k4, k5, k6⟩ := m_ok hz
  refine sm_cal ih hge C hz h4 hret hl r hS hc hs (fun o1 hzz hr4 hdp hM hroom => ?_)
  have hcb := cb_of (mc := o1.2.1.2.1 - w.2.1) (ms := o1.2.1.2.2 - w.2.2) C hz hdp hini hlk
  rw [hrt] at hcb
  refine va_runI (As := (st.take (m_na z)).reverse.map (rv b base)) (n := m_na z) (b := rho b base b') (g := F0 m pc rl (st.map (rv b base))) ⟨hx, hb, hml, hown, hts⟩ hM ⟨hcb, hnm, hts _ hinst⟩ ⟨mPc_blind, mPc_of C r hS hzz⟩ rfl ?_ hl.2.1 (take_drop_map h2) (lv_room ?_) hd hroom
  · simp only [List.length_map, List.length_reverse, List.length_take]; omega
  · have := cat_rv b base rest; omega
theorem take_drop_mapS {n : Nat} {st : List Value} : st.map (rv b base) = ((st.take n).reverse.map (rv b base)).reverse ++ (st.drop n).map (rv b base) := by
  conv => lhs; rw [← List.take_append_drop n st]
  rw [List.map_append, ← List.map_reverse, List.reverse_reverse]
theorem sm_calS {o : Option Value × WS × HS} {ls st : List Value} {i : Nat} (ih : Snd l b base L xs D dA E) (hge : Ge E) (C : Cx b base L xs D dA n0 p R s m args meth c y) (hz : z ∈ mtL) (hh : calS E y z pc ls st w h = some o) (hret : Rt b base L xs D dA n0 s0 p l e R s m args below meth c Q y o) (hl : LR b base rl (m_ml y) ls) (r : RP b base L xs D dA w h H) (hS : va_S (fun q => base ≤ q) s.heap H locs) (hc : w.2.1 = n0 + cells) (hs : w.2.2 = s0 + slots) (hd : decode (m_bc y) pc = .ok (.invokestatic i, 3)) (hini : Cond.initialized (m_nm z).cls ∈ tb) (hlk : Cond.methodLink (Rn (m_oc y)) i (m_nm z) ∈ tb ∨ (m_oc y, i, m_nm z) ∈ nestL) (hst : Cond.static (m_nm z) ∈ tb) :
    W p l e R s m args below meth c H locs cells slots Q (F0 m pc rl (st.map (rv b base))) := by
  unfold calS at hh
  simp only [gd_some] at hh
  obtain ⟨h1, h4⟩ := hh
  have C0 := C
  obtain ⟨hx, hb, hml, hown, hts, hK, hin, hf, hlo, hsz, hbl, hX⟩ := C0
  refine sm_cal ih hge C hz h4 hret hl r hS hc hs (fun o1 hzz hr4 hdp hM hroom => ?_)
  rcases hlk with hlk | hlk
  · refine va_runS (As := (st.take (m_na z)).reverse.map (rv b base)) (n := m_na z) (g := F0 m pc rl (st.map (rv b base))) ⟨hx, hb, hml, hown, hts⟩ hM ⟨cb_of C hz hdp hini hlk, hts _ hst⟩ ⟨mPc_blind, mPc_of C r hS hzz⟩ rfl ?_ hl.2.1 take_drop_mapS (lv_room ?_) hd hroom
    · simp only [List.length_map, List.length_reverse, List.length_take]; omega
    · have := cat_rv b base (st.drop (m_na z)); omega
  · refine va_runSN (As := (st.take (m_na z)).reverse.map (rv b base)) (n := m_na z) (g := F0 m pc rl (st.map (rv b base))) ⟨hx, hb, hml, hown, hts⟩ hM ⟨cn_of C hz hdp hini hlk, hts _ hst, trivial⟩ ⟨mPc_blind, mPc_of C r hS hzz⟩ rfl ?_ hl.2.1 take_drop_mapS (lv_room ?_) hd hroom
    · simp only [List.length_map, List.length_reverse, List.length_take]; omega
    · have := cat_rv b base (st.drop (m_na z)); omega
end CL
