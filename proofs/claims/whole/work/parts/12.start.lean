/-! THE CLAIM OUT OF ONE WALK OF THE LAW'S BODY. Your part is whole_start (and what it stands on); all else here is the same for every law, but numbers. -/
def R_law : String := "PaintedLinesLaw"
def lw_P (b : Addr) (xs : List Int32) (args : Array Value) (s : State) : Prop := args = #[.ref b] ∧ s.IntsAt b xs ∧ xs.length ≤ 2048 ∧ (Jvm.Cond.and given_1 narrow_1).before args s = true
def lw_Q (_ : Array Value) (s : State) (o : Outcome) (t : State) : Prop := o = .returned (some (.int 1)) ∧ Framed s o t [] 600000 7302250
def lw_Z (below : List Frame) (a : Array Value) (s : State) : State → Prop := fun t => ∃ o, t.status = .running ∧ Ended t below o ∧ lw_Q a s o t
/-- the law's own end, with 1 on the stack, nothing written that was there before, its room as the claim has it -/
theorem lw_ret {p : Program} {l : Launch} {e : Env} {s : State} {m : MethodId} {below : List Frame} {meth : Method} {c : Code} {b : Nat} (hx : p.tables.exec = Jvm.exec) (hb : c.code = code) (hr : meth.sig.returnType = ret) (hlocks : meth.locks = false) {pc : Nat} {H : Heap} {ls : Array Slot} (hdg : decode code pc = .ok (.ireturn, 1)) : W p l e room_1 s m #[Value.ref b] below meth c H [] 600000 7302250 (lw_Z below #[Value.ref b] s) (F0 m pc ls [.int 1]) := by
  intro T hT X
  obtain ⟨fs, hret, hrun, hended, hW, hframe⟩ := X.leave (v := some (.int 1)) (hlocks := hlocks) (fun h => by rw [hr] at h; cases h)
  have hmeth' : T.vm.method? m = some meth := X.method'
  refine ⟨T.setFrames fs, ?_, .returned (some (.int 1)), hrun, hended, rfl, ⟨_, rfl⟩, hW, hframe⟩
  jvm_step X.here [X.here.top, hx, hb, hdg, hmeth', hr, ret, narrow_b1]
  (try refine ⟨rfl, ?_⟩); (try refine ⟨rfl, ?_⟩)
  first | (intro acts; rw [hret _ acts rfl rfl rfl]) | rw [hret _ _ rfl rfl rfl]
  exact Steps.refl _
/-- what holds at the law's entry: the machine, the code, the tables' words (any of lw_tbl by 'hts w (by decide +kernel)'), the script of L ints xs at the cell b, what the Statement gives of the start (any of its parts by flat_of_before) -/
def lw_At (p : Program) (s : State) (m : MethodId) (meth : Method) (c : Code) (b L : Nat) (xs : Nat → Int32) : Prop :=
  p.tables.exec = Jvm.exec ∧ c.code = code ∧ meth.sig.returnType = ret ∧ c.maxLocals = 4 ∧ s.vm.findClass R_law = some m.cls ∧ (∀ w ∈ lw_tbl, w.before #[Value.ref b] s = true) ∧ va_X b L xs s s.heap ∧ b < s.heap.size ∧ meth.locks = false ∧ (Jvm.Cond.and given_1 narrow_1).before #[Value.ref b] s = true

def iP : List Nat := [224, 231, 93, 86, 184, 65, 167, 101, 150, 57, 601]
set_option maxRecDepth 100000 in
theorem iP_ok : ∀ ci, ci < 11 → lw_tbl[iP.getD ci 0]? = some (.instantiable (Rn ci) (nfOf ci)) := by decide +kernel
/-! ===== the law's entry in the small machine ===== -/
def w0 (L : Nat) : WS := (fun a => if a = 0 then (20, L) else (99, 0), 0, 0)
def h0 (xs : Nat → Int32) : HS := (fun a j => if a = 0 then xs j else 0, fun _ _ => none, fun _ _ => 0)
/-- WHAT IS LEFT: on every script the law's run in the small machine ends with 1 -/
def MiniLaw : Prop := ∀ (L : Nat) (xs : Nat → Int32), L ≤ 2048 → ∃ (n : Nat) (w' : WS) (h' : HS), xc n mL_law 0 [.ref 0, .null, .null, .null] [] (w0 L) (h0 xs) = some (some (.int 1), w', h') ∧ w'.2.1 ≤ 600000 ∧ w'.2.2 ≤ 7302250
theorem arr_ex {s : State} {args : Array Value} (hts : ∀ w ∈ lw_tbl, w.before args s = true) : ∃ dA : Nat → ClassId, ∀ (k : Nat) (q : ClassId × FieldType), ([(dA 0, .int), (dA 1, .object RX2), (dA 2, .object RX5), (dA 3, .object RX1)] : List (ClassId × FieldType))[k]? = some q → ArrOfT s q.1 q.2 ∧ va_RA s q.1 q.2 := by
  obtain ⟨cI, kI, compI, a1, a2, a3⟩ := Cond.arrayClass_spec (hts _ (List.mem_filter.mp w_arI).1)
  have ro : ∀ {C : String}, Cond.arrayOver (.object C) ∈ lw_tbl → ∃ cA, ArrOfT s cA (.object C) ∧ va_RA s cA (.object C) := by
    intro C hC
    obtain ⟨comp, cA, kA, f1, f2, f3, f4, f5⟩ := Cond.arrayOver_spec (hts _ hC)
    exact ⟨cA, fun n z => ⟨fun k h => (by cases h), kA, f3, comp, f4⟩, kA, comp, f3, f4, f1, f5⟩
  obtain ⟨c2, r2⟩ := ro w_ar2
  obtain ⟨c5, r5⟩ := ro w_ar5
  obtain ⟨c1, r1⟩ := ro w_ar1
  refine ⟨fun k => if k = 0 then cI else if k = 1 then c2 else if k = 2 then c5 else c1, ?_⟩
  intro k q hq
  match k, hq with
  | 0, hq => cases hq; exact ⟨fun n z => ⟨fun k h => (by cases h), kI, a2, compI, a3⟩, a1⟩
  | 1, hq => cases hq; exact r2
  | 2, hq => cases hq; exact r5
  | 3, hq => cases hq; exact r1
  | k + 4, hq => simp at hq
theorem cls_ex {s : State} {args : Array Value} (hts : ∀ w ∈ lw_tbl, w.before args s = true) : ∃ (dC : Nat → ClassId) (dI : Nat → Nat → Nat), ∀ (k : Nat) (q : vw_C), vwCl[k]? = some q → u_Kn s q.1 q.2.1 q.2.2 (dC k) (dI k) := by
  have hts2 : ∀ w ∈ tb, w.before args s = true := fun w hw => hts w (List.mem_filter.mp hw).1
  have h : ∀ ci : Nat, ∃ q : ClassId × (Nat → Nat), ci < 11 → u_Kn s (Rn ci) (Tn ci) (nfOf ci) q.1 q.2 := by
    intro ci
    by_cases hc : ci < 11
    · obtain ⟨c, i, hk⟩ := u_known (C := Rn ci) (T := Tn ci) (N := nfOf ci) (n := nfOf ci) hts2 (in_ws hc) (hts _ (List.mem_of_getElem? (iP_ok ci hc)))
      exact ⟨(c, i), fun _ => hk⟩
    · exact ⟨(0, fun _ => 0), fun q => absurd q hc⟩
  refine ⟨fun k => (Classical.choose (h k)).1, fun k => (Classical.choose (h k)).2, ?_⟩
  intro k q hq
  have hk : k < 11 := (List.getElem?_eq_some_iff.mp hq).1
  have := Classical.choose_spec (h k) hk
  rw [vw_at k hk] at hq
  cases hq
  exact this
set_option maxHeartbeats 4000000 in
theorem whole_start_of (hM : MiniLaw) {p : Program} {e : Env} {s : State} {m : MethodId} {below : List Frame} {meth : Method} {c : Code} (l : Launch) {b L : Nat} {xs : Nat → Int32} (hL : L ≤ 2048) (C0 : lw_At p s m meth c b L xs) : W p l e room_1 s m #[Value.ref b] below meth c s.heap [] 0 0 (lw_Z below #[Value.ref b] s) (entryFrame m ([Value.ref b] : List Value).toArray 4) := by
  obtain ⟨hx, hb, hr, hml, hown, hts, hX, hbl, hlocks, hgv⟩ := id C0
  obtain ⟨n, w', h', hrun, hc1, hs1⟩ := hM L xs hL
  obtain ⟨dA, hdA⟩ := arr_ex hts
  obtain ⟨dC, dI, hdC⟩ := cls_ex hts
  have hts2 : ∀ w ∈ tb, w.before #[Value.ref b] s = true := fun w hw => hts w (List.mem_filter.mp hw).1
  have hK : KK (dC, dI) dA s := ⟨⟨hdC, hdA⟩, fun q hq => va_Nw.of rfl (hts _ (nest_in q hq)), va_AO.of (hts _ w_ar2), va_AO.of (hts _ w_ar5), va_AO.of (hts _ w_ar1)⟩
  have C : Cx b s.heap.size L xs (dC, dI) dA 0 p room_1 s m #[Value.ref b] meth c mL_law := ⟨hx, hb, hml, hown, hts2, hK, (fun q => absurd q (by decide)), Nat.le_of_ble_eq_true rfl, Nat.le_of_ble_eq_true rfl, rfl, hbl, hX⟩
  have hP0 : RP b s.heap.size L xs (dC, dI) dA (w0 L) (h0 xs) s.heap := by
    refine ⟨fun k q hq => ?_, rfl, fun j => rfl, fun a ha => ?_⟩
    · simp [wsO, w0] at hq
    · have ha : 0 < a := ha
      have h1 : ¬ a = 0 := by omega
      exact ⟨if_neg h1, fun k => ⟨if_neg h1, rfl, rfl⟩⟩
  have hl : LR b s.heap.size ((lg_sl ([Value.ref b] : List Value) ++ List.replicate (4 - (lg_sl ([Value.ref b] : List Value)).length) Slot.unset).toArray) 4 [.ref 0, .null, .null, .null] := LR.entry (b := b) (base := s.heap.size) (n := 4) (as := [.ref 0]) (by decide)
  rw [lg_entry_eq]
  refine snd_xc n mL_law p e room_1 s m #[Value.ref b] below meth c _ 0 0 C 0 _ [] (w0 L) (h0 xs) _ hrun ⟨?_, ?_, ?_⟩ _ s.heap [] 0 0 hl hP0 va_S.rf rfl rfl
  · show w'.2.1 ≤ 0 + 600000; omega
  · show w'.2.2 ≤ 0 + 7302250; omega
  · intro pc rl H locs cells slots hok hr' hS' hc hs
    dsimp only at hc hs
    refine va_forget (fun q hq => hS'.2.2 q hq) ?_
    refine W.widen (k := 600000) (n := 7302250) (by omega) (by omega) ?_
    exact lw_ret hx hb hr hlocks hok.1

