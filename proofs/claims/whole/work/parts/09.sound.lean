/-! ===== what the small machine answers, the machine answers ===== -/
def rOKp (y : ME) (pc : Nat) (r : Option Value) : Prop := match r with
  | some (.int x) => decode (m_bc y) pc = .ok (.ireturn, 1) ∧ rOK (m_rt y) x
  | some (.long _) => decode (m_bc y) pc = .ok (.lreturn, 1) ∧ m_rt y = some .long
  | none => decode (m_bc y) pc = .ok (.return_, 1) ∧ m_rt y = none
  | _ => False
/-- a method's frame: what holds all along -/
def Cx (b base L : Nat) (xs : Nat → Int32) (D : va_G) (dA : Nat → ClassId) (n0 : Nat) (p : Program) (R : Room) (s : State) (m : MethodId) (args : Array Value) (meth : Method) (c : Code) (y : ME) : Prop :=
  p.tables.exec = Jvm.exec ∧ c.code = m_bc y ∧ c.maxLocals = m_ml y ∧ s.vm.findClass (Rn (m_oc y)) = some m.cls ∧ (∀ w ∈ tb, w.before args s = true) ∧ KK D dA s ∧ (m_in y = 1 → meth.name = "<init>") ∧ m_dp y ≤ R.frames ∧ 28 * m_dp y ≤ R.locals ∧ s.heap.size = base + n0 ∧ b < base ∧ va_X b L xs s s.heap
/-- the machine comes to Q from here -/
def Gl (b base L : Nat) (xs : Nat → Int32) (D : va_G) (dA : Nat → ClassId) (n0 s0 : Nat) (p : Program) (l : Launch) (e : Env) (R : Room) (s : State) (m : MethodId) (args : Array Value) (below : List Frame) (meth : Method) (c : Code) (Q : State → Prop) (y : ME) (pc : Nat) (ls st : List Value) (w : WS) (h : HS) : Prop :=
  ∀ (rl : Array Slot) (H : Heap) (locs : List Loc) (cells slots : Nat), LR b base rl (m_ml y) ls → RP b base L xs D dA w h H → va_S (fun q => base ≤ q) s.heap H locs → w.2.1 = n0 + cells → w.2.2 = s0 + slots → W p l e R s m args below meth c H locs cells slots Q (F0 m pc rl (st.map (rv b base)))
/-- at the method's end the machine comes to Q -/
def Rt (b base L : Nat) (xs : Nat → Int32) (D : va_G) (dA : Nat → ClassId) (n0 s0 : Nat) (p : Program) (l : Launch) (e : Env) (R : Room) (s : State) (m : MethodId) (args : Array Value) (below : List Frame) (meth : Method) (c : Code) (Q : State → Prop) (y : ME) (o : Option Value × WS × HS) : Prop :=
  o.2.1.2.1 ≤ n0 + R.cells ∧ o.2.1.2.2 ≤ s0 + R.slots ∧ ∀ (pc : Nat) (rl : Array Slot) (H : Heap) (locs : List Loc) (cells slots : Nat), rOKp y pc o.1 → RP b base L xs D dA o.2.1 o.2.2 H → va_S (fun q => base ≤ q) s.heap H locs → o.2.1.2.1 = n0 + cells → o.2.1.2.2 = s0 + slots → W p l e R s m args below meth c H locs cells slots Q (F0 m pc rl (o.1.toList.map (rv b base)))
def Snd (l : Launch) (b base L : Nat) (xs : Nat → Int32) (D : va_G) (dA : Nat → ClassId) (E : EX) : Prop :=
  ∀ (y : ME) (p : Program) (e : Env) (R : Room) (s : State) (m : MethodId) (args : Array Value) (below : List Frame) (meth : Method) (c : Code) (Q : State → Prop) (n0 s0 : Nat), Cx b base L xs D dA n0 p R s m args meth c y → ∀ (pc : Nat) (ls st : List Value) (w : WS) (h : HS) (o : Option Value × WS × HS), E y pc ls st w h = some o → Rt b base L xs D dA n0 s0 p l e R s m args below meth c Q y o → Gl b base L xs D dA n0 s0 p l e R s m args below meth c Q y pc ls st w h
/-- a method's words -/
def mws (z : ME) : List Cond := Cond.code (m_nm z) (m_bc z) (m_ml z) (m_rt z) :: tb
def mrm (z : ME) (mc ms : Nat) : Room := { frames := m_dp z, cells := mc, slots := ms, locals := 28 * m_dp z }
theorem cw_in {z : ME} (hz : z ∈ mtL) : Cond.code (m_nm z) (m_bc z) (m_ml z) (m_rt z) ∈ tb := by
  obtain ⟨i, hi⟩ := List.getElem?_of_mem hz
  have h1 := congrArg (fun l => l[i]?) cw_ok
  rw [List.getElem?_map, List.getElem?_map, hi] at h1
  simp only [Option.map_some, Option.some.injEq] at h1
  exact at_tb h1 rfl
theorem m_ok {z : ME} (hz : z ∈ mtL) : (m_nm z).cls = Rn (m_oc z) ∧ plainName (m_nm z).cls = true ∧ ((m_nm z).cls ≠ "java/lang/invoke/MethodHandle" ∧ (m_nm z).cls ≠ "java/lang/invoke/VarHandle" ∧ (parseMethodDescriptor (m_nm z).desc).map (fun d => d.parameters.length) = some (m_na z)) ∧ (m_in z = 1 → (m_nm z).name = "<init>") ∧ m_ml z ≤ 9 ∧ m_oc z < 11 := by
  have h := chM_ok z hz
  simp only [chM, Bool.and_eq_true, decide_eq_true_eq] at h
  exact ⟨h.1.1.1.1.1, h.1.1.1.1.2, h.1.1.1.2, h.1.1.2, h.1.2, h.2⟩
/-- a method's start and end, by the small machine's states -/
def mPc (b base L : Nat) (xs : Nat → Int32) (D : va_G) (dA : Nat → ClassId) (as : List Value) (w : WS) (h : HS) : Array Value → State → Prop := fun v U => v = (as.map (rv b base)).toArray ∧ RP b base L xs D dA w h U.heap ∧ KK D dA U ∧ U.heap.size = base + w.2.1 ∧ va_X b L xs U U.heap
def mQc (b base L : Nat) (xs : Nat → Int32) (D : va_G) (dA : Nat → ClassId) (o : Option Value × WS × HS) : Array Value → State → Outcome → State → Prop := fun _ st oc t => oc = .returned (o.1.map (rv b base)) ∧ RP b base L xs D dA o.2.1 o.2.2 t.heap ∧ va_F (fun q => base ≤ q) st t
set_option maxHeartbeats 4000000 in
theorem met_of {l : Launch} {b base L : Nat} {xs : Nat → Int32} {D : va_G} {dA : Nat → ClassId} {E : EX} (ih : Snd l b base L xs D dA E) (hge : Ge E) (hb0 : b < base) {z : ME} (hz : z ∈ mtL) {as : List Value} {w : WS} {h : HS} {o : Option Value × WS × HS} (hlen : (expL as).length ≤ m_ml z) (hE : E z 0 (entL (m_ml z) as) [] w h = some o) :
    Met l (m_nm z) (mws z) (mrm z (o.2.1.2.1 - w.2.1) (o.2.1.2.2 - w.2.2)) (mPc b base L xs D dA as w h) (mQc b base L xs D dA o) (o.2.1.2.1 - w.2.1) (o.2.1.2.2 - w.2.2) (fun q => base ≤ q) := by
  obtain ⟨k1, k2, k3, k4, k5, k6⟩ := m_ok hz
  have hg := hge _ _ _ _ _ _ _ _ _ hE
  refine Met.ofW (cc := m_bc z) (maxL := m_ml z) (ret := m_rt z) k2 rfl ?_
  intro p e s m args below meth c s₁ B hml hv
  obtain ⟨rfl, hr, hK, hsz, hX⟩ := hv
  have hts0 := atoms_spec (ws := mws z) B.pre
  have hts : ∀ w ∈ tb, w.before (as.map (rv b base)).toArray s = true := fun w hw => hts0 w (List.mem_cons_of_mem _ hw)
  have hown : s.vm.findClass (m_nm z).cls = some m.cls := findClass_of_methodNamed B.named
  rw [k1] at hown
  have hlocks := B.notSynchronized
  have hin : m_in z = 1 → meth.name = "<init>" := fun q => ((name_of_methodNamed B.named B.method).1).trans (k4 q)
  have hr2 := B.returns
  have C : Cx b base L xs D dA w.2.1 p (mrm z (o.2.1.2.1 - w.2.1) (o.2.1.2.2 - w.2.2)) s m (as.map (rv b base)).toArray meth c z := ⟨B.exec, B.bytes, hml, hown, hts, hK, hin, Nat.le_refl _, Nat.le_refl _, hsz, hb0, hX⟩
  rw [lg_entry_eq]
  refine ih z p e _ s m _ below meth c _ w.2.1 w.2.2 C 0 _ [] w h o hE ⟨?_, ?_, ?_⟩ _ s.heap [] 0 0 (LR.entry hlen) hr va_S.rf rfl rfl
  · show o.2.1.2.1 ≤ w.2.1 + (o.2.1.2.1 - w.2.1); omega
  · show o.2.1.2.2 ≤ w.2.2 + (o.2.1.2.2 - w.2.2); omega
  · intro pc rl H locs cells slots hok hr' hS' hc hs
    obtain rfl : cells = o.2.1.2.1 - w.2.1 := by omega
    obtain rfl : slots = o.2.1.2.2 - w.2.2 := by omega
    have hx := B.exec
    have hb := B.bytes
    obtain ⟨r, w', h'⟩ := o
    match r, hok with
    | some (.int x), hok =>
      rcases hok.2 with q | ⟨q, q2⟩
      · exact W.iret (v := x) hx hb (hr2.trans q) (fun t ht hW => ⟨rfl, by rw [ht]; exact hr', hS'.F ht⟩) hS'.2.2 hok.1
      · exact W.zret (v := x) (ty := .boolean) hx hb (hr2.trans q) (by rcases q2 with rfl | rfl <;> rfl) (fun t ht hW => ⟨rfl, by rw [ht]; exact hr', hS'.F ht⟩) hS'.2.2 hok.1
    | some (.long x), hok => exact W.lret (v := x) hx hb (hr2.trans hok.2) (fun t ht hW => ⟨rfl, by rw [ht]; exact hr', hS'.F ht⟩) hS'.2.2 hok.1
    | none, hok => exact W.vret hx hb (hr2.trans hok.2) (fun t ht hW => ⟨rfl, by rw [ht]; exact hr', hS'.F ht⟩) hS'.2.2 hok.1
theorem mws_good {z : ME} (hz : z ∈ mtL) {args : Array Value} {s : State} (hts : ∀ w ∈ tb, w.before args s = true) : ∀ w ∈ mws z, ∀ (a' : Array Value) (U : State), s.WarmedH U.vm → w.before a' U = true := by
  intro w hw a' U hW
  have hw' : w ∈ tb := by
    rcases List.mem_cons.mp hw with rfl | hw
    · exact cw_in hz
    · exact hw
  exact word_at hW (good_of_word (List.mem_filter.mp hw').2) (hts w hw')
