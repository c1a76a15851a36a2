/-! ===== the instructions that touch cells, in the words of the small machine ===== -/
def KK (D : va_G) (dA : Nat → ClassId) (U : State) : Prop := va_K D vwCl [(dA 0, .int), (dA 1, .object RX2), (dA 2, .object RX5), (dA 3, .object RX1)] U ∧ (∀ q ∈ nestL, va_Nw (.methodLinkNest (Rn q.1) q.2.1 q.2.2 "PaintedLines") U) ∧ va_AO RX2 U ∧ va_AO RX5 U ∧ va_AO RX1 U
theorem KK.warm {D : va_G} {dA : Nat → ClassId} {s U : State} (hW : s.WarmedH U.vm) (h : KK D dA s) : KK D dA U := ⟨va_K.moved hW.alike h.1, fun q hq => va_Nw.warmM hW (h.2.1 q hq), va_AO.moved hW.alike h.2.2.1, va_AO.moved hW.alike h.2.2.2.1, va_AO.moved hW.alike h.2.2.2.2⟩
theorem KK.calling {D : va_G} {dA : Nat → ClassId} {U : State} {g : JFrame} {mk : MethodId} {a : Array Value} (h : KK D dA U) : KK D dA (U.calling g mk a) := ⟨va_K.moved (u := U) (U := U.calling g mk a) (Vm.Alike.refl U.vm) h.1, fun q hq => va_Nw.same rfl rfl (h.2.1 q hq), va_AO.moved (u := U) (U := U.calling g mk a) (Vm.Alike.refl U.vm) h.2.2.1, va_AO.moved (u := U) (U := U.calling g mk a) (Vm.Alike.refl U.vm) h.2.2.2.1, va_AO.moved (u := U) (U := U.calling g mk a) (Vm.Alike.refl U.vm) h.2.2.2.2⟩
theorem chG_lay {ci k : Nat} (hc : ci < 11) (hk : k < nfOf ci) : (Tn ci k).1 = Rn ci ∧ (Tn ci k).2.2.2 = decide (10 ≤ gtg ci k) ∧ u_lay (Rn ci) (Tn ci) k ∈ tb := by
  have h := chG_ok ci hc k hk
  simp only [chG, Bool.and_eq_true, decide_eq_true_eq] at h
  exact ⟨h.1.1.1.1, h.1.1.1.2, at_tb h.1.1.2 h.1.2⟩
theorem in_ws {ci : Nat} (hc : ci < 11) : ∀ w ∈ u_ws (Rn ci) (Tn ci) (nfOf ci), w ∈ tb := by
  intro w hw
  obtain ⟨k, hk, rfl⟩ := List.mem_map.mp hw
  exact (chG_lay hc (List.mem_range.mp hk)).2.2
theorem chG_ty {ci k : Nat} (hc : ci < 11) (hk : k < nfOf ci) : (gtg ci k % 10 = 0 ∧ tyN ci k = .int) ∨ (gtg ci k % 10 = 1 ∧ tyN ci k = .boolean) ∨ (gtg ci k % 10 = 2 ∧ tyN ci k = .long) ∨ (gtg ci k % 10 = 3 ∧ ((∃ C, tyN ci k = .object C) ∨ (∃ t, tyN ci k = .array t))) := by
  have h := chG_ok ci hc k hk
  simp only [chG, Bool.and_eq_true, decide_eq_true_eq] at h
  have h2 := h.2
  split at h2
  · next e => exact Or.inl ⟨e, by simpa using h2⟩
  · split at h2
    · next e => exact Or.inr (Or.inl ⟨e, by simpa using h2⟩)
    · split at h2
      · next e => exact Or.inr (Or.inr (Or.inl ⟨e, by simpa using h2⟩))
      · simp only [Bool.and_eq_true, decide_eq_true_eq] at h2
        refine Or.inr (Or.inr (Or.inr ⟨h2.1, ?_⟩))
        have h3 := h2.2
        split at h3
        · next C e => exact Or.inl ⟨C, e⟩
        · next t e => exact Or.inr ⟨t, e⟩
        · cases h3
theorem res_f {oc i ci k pl : Nat} (h : fRes oc i = some (ci, k, pl)) : ci < 11 ∧ Cond.fieldLink (Rn oc) i (Rn ci) (Tn ci k).2.1 (Tn ci k).2.2.1 ∈ tb := by
  obtain ⟨h1, h2⟩ := lk_memD h
  have := chF_ok oc h1 _ h2
  simp only [chF, Bool.and_eq_true, decide_eq_true_eq] at this
  exact ⟨this.2, at_tb this.1 rfl⟩
theorem res_n {oc i ci p1 p2 p3 : Nat} (h : nRes oc i = some (ci, p1, p2, p3)) : ci < 11 ∧ Cond.classLink (Rn oc) i (Rn ci) ∈ tb ∧ Cond.instantiable (Rn ci) (nfOf ci) ∈ tb ∧ Cond.initialized (Rn ci) ∈ tb := by
  obtain ⟨h1, h2⟩ := lk_memD h
  have := chN_ok oc h1 _ h2
  simp only [chN, Bool.and_eq_true, decide_eq_true_eq] at this
  exact ⟨this.2, at_tb this.1.1.1 rfl, at_tb this.1.1.2 rfl, at_tb this.1.2 rfl⟩
theorem res_k {oc i pl : Nat} {v : Int64} (h : kRes oc i = some (v, pl)) : Cond.constantLong (Rn oc) i v ∈ tb := by
  obtain ⟨h1, h2⟩ := lk_memD h
  have := chK_ok oc h1 _ h2
  simp only [chK, decide_eq_true_eq] at this
  exact at_tb this rfl
theorem vin_in {i : Int32} {n : Nat} (h : vin i n) : vp_in i n := fun q => q.elim h.1 (fun z => Nat.not_le.mpr h.2 z)
section SM
variable {p : Program} {l : Launch} {e : Env} {R : Room} {s : State} {m : MethodId} {args : Array Value} {below : List Frame} {meth : Method} {c : Code} {H : Heap} {locs : List Loc} {cells slots : Nat} {Q : State → Prop}
variable {b base L : Nat} {xs : Nat → Int32} {D : va_G} {dA : Nat → ClassId} {w : WS} {h h' : HS} {pc : Nat} {rl : Array Slot} {rest : List Value} {y : ME}
/-- the heap is just as large as its cells are many -/
theorem W_size {n0 : Nat} (hz : s.heap.size = base + n0) (hc : w.2.1 = n0 + cells) (r : RP b base L xs D dA w h H) {g : JFrame} (k : H.size = base + w.2.1 → W p l e R s m args below meth c H locs cells slots Q g) : W p l e R s m args below meth c H locs cells slots Q g := by
  intro T hT X
  have h1 : s.heap.size ≤ T.heap.size := X.same.2.1
  have h2 : T.heap.size ≤ s.heap.size + cells := X.same.2.2.1
  rw [hT] at h1 h2
  refine k ?_ T hT X
  by_cases h0 : w.2.1 = 0
  · omega
  · have h3 := wsO_at (b := b) (base := base) (dA := dA) (w := w) (h := h) (a := w.2.1) h0 (Nat.le_refl _)
    have h4 := (r.1 _ _ h3).lt
    simp only [rho, h0, if_false] at h4
    omega
theorem sm_get (hx : p.tables.exec = Jvm.exec) (hb : c.code = m_bc y) (hown : s.vm.findClass (Rn (m_oc y)) = some m.cls) (hts : ∀ w ∈ tb, w.before args s = true) (hK : KK D dA s) (r : RP b base L xs D dA w h H) {i ci k pl a : Nat} (hf : fRes (m_oc y) i = some (ci, k, pl)) (hs : w.1 a = (ci, 0)) (hk : k < nfOf ci) (hd : decode (m_bc y) pc = .ok (.getfield i, 3))
    (kk : W p l e R s m args below meth c H locs cells slots Q (F0 m (pc + 3) rl (rv b base (rdF h (gtg ci k) a k) :: rest))) : W p l e R s m args below meth c H locs cells slots Q (F0 m pc rl (.ref (rho b base a) :: rest)) := by
  obtain ⟨hci, hlink⟩ := res_f hf
  have h0 : a ≠ 0 := r.obj0 (by rw [hs]; show ci ≠ 20; omega)
  have hat := r.at (a := a) (by rw [hs]; show ci < 99; omega) h0
  rw [ent_obj hs hci] at hat
  refine va_get (D := D) (C := Rn ci) (T := Tn ci) (N := nfOf ci) (ref := Rn ci) hx hb hts (in_ws hci) hown hK.1 r.1 (a - 1) hat (vw_at ci hci) k hk (hts _ hlink) (fun x hx => by rw [(chG_lay hci hk).1] at hx; exact hx) ?_ hd kk
  rw [List.getElem?_map, List.getElem?_range hk]
  rfl
theorem sm_put (hx : p.tables.exec = Jvm.exec) (hb : c.code = m_bc y) (hown : s.vm.findClass (Rn (m_oc y)) = some m.cls) (hts : ∀ w ∈ tb, w.before args s = true) (hK : KK D dA s) (hin : m_in y = 1 → meth.name = "<init>") (r : RP b base L xs D dA w h H) {H0 : Heap} (hS : va_S (fun q => base ≤ q) H0 H locs) {i ci k pl a : Nat} {v : Value} (hf : fRes (m_oc y) i = some (ci, k, pl)) (hfin : gtg ci k < 10 ∨ (m_in y = 1 ∧ m_oc y = ci)) (hs : w.1 a = (ci, 0)) (hk : k < nfOf ci) (hd : decode (m_bc y) pc = .ok (.putfield i, 3))
    (hn : narrow (tyN ci k) (rv b base v) = rv b base v) (hfit : fits (tyN ci k) (rv b base v) = true) (h1 : ∀ j, j ≠ k → rdF h' (gtg ci j) a j = rdF h (gtg ci j) a j) (h2 : rdF h' (gtg ci k) a k = v) (ho : ∀ c, c ≠ a → ∀ j, h'.1 c j = h.1 c j ∧ h'.2.1 c j = h.2.1 c j ∧ h'.2.2 c j = h.2.2 c j)
    (kk : ∀ (H1 : Heap) (locs1 : List Loc), RP b base L xs D dA w h' H1 → va_S (fun q => base ≤ q) H0 H1 locs1 → W p l e R s m args below meth c H1 locs1 cells slots Q (F0 m (pc + 3) rl rest)) : W p l e R s m args below meth c H locs cells slots Q (F0 m pc rl (rv b base v :: .ref (rho b base a) :: rest)) := by
  obtain ⟨hci, hlink⟩ := res_f hf
  have h0 : a ≠ 0 := r.obj0 (by rw [hs]; show ci ≠ 20; omega)
  have hat := r.at (a := a) (by rw [hs]; show ci < 99; omega) h0
  have hle : a ≤ w.2.1 := r.live (by rw [hs]; show ci < 99; omega)
  rw [ent_obj hs hci] at hat
  have hE : ent b base dA w h' a = .inr (ci, ((List.range (nfOf ci)).map (fun k => rv b base (rdF h (gtg ci k) a k))).set k (rv b base v)) := by
    rw [ent_obj hs hci]
    congr 2
    exact map_set (fun j hj => by rw [h1 j hj]) (by rw [h2])
  by_cases hq : gtg ci k < 10
  · refine va_put (D := D) (C := Rn ci) (T := Tn ci) (N := nfOf ci) (ref := Rn ci) hx hb hts (in_ws hci) (tyN ci) (ty_ok ci hci) (nm_ok ci hci) hown hK.1 r.1 wsO_D hS (a - 1) hat (vw_at ci hci) k hk (hts _ hlink) (fun x hx => by rw [(chG_lay hci hk).1] at hx; exact hx) ?_ (ty_ok ci hci k hk) hn hfit (by simp; exact hk) hd (fun H1 locs1 hP1 hD1 hS1 => kk H1 locs1 (r.stI h0 hle ho hE hP1) hS1)
    rw [(chG_lay hci hk).2.1]
    simpa using hq
  · obtain ⟨q1, q2⟩ := hfin.resolve_left hq
    refine va_putF (D := D) (C := Rn ci) (T := Tn ci) (N := nfOf ci) (ref := Rn ci) hx hb hts (in_ws hci) (tyN ci) (ty_ok ci hci) (nm_ok ci hci) hown hK.1 r.1 wsO_D hS (a - 1) hat (vw_at ci hci) k hk (hts _ hlink) (fun x hx => by rw [(chG_lay hci hk).1] at hx; exact hx) ?_ (hin q1) ?_ (ty_ok ci hci k hk) hn hfit (by simp; exact hk) hd (fun H1 locs1 hP1 hD1 hS1 => kk H1 locs1 (r.stI h0 hle ho hE hP1) hS1)
    · rw [(chG_lay hci hk).2.1]
      simpa using hq
    · rw [(chG_lay hci hk).1, q2]
theorem sm_iald (hx : p.tables.exec = Jvm.exec) (hb : c.code = m_bc y) (hK : KK D dA s) (r : RP b base L xs D dA w h H) (hX : va_X b L xs s s.heap) (hbl : b < base) (hbs : base ≤ s.heap.size) (hS : va_S (fun q => base ≤ q) s.heap H locs) {a : Nat} {i : Int32} (hs : (w.1 a).1 = 20) (hi : vin i (w.1 a).2) (hd : decode (m_bc y) pc = .ok (.iaload, 1))
    (kk : W p l e R s m args below meth c H locs cells slots Q (F0 m (pc + 1) rl (.int (h.1 a i.toNatClampNeg) :: rest))) : W p l e R s m args below meth c H locs cells slots Q (F0 m pc rl (.int i :: .ref (rho b base a) :: rest)) := by
  by_cases h0 : a = 0
  · subst h0
    rw [r.2.1] at hi
    refine va_sld (A := fun q => base ≤ q) hx hb hX (by omega) (by omega) hS (vin_in hi) hd ?_
    rw [← r.2.2.1]
    exact kk
  · have hat := r.at (a := a) (by rw [hs]; decide) h0
    rw [ent_int hs] at hat
    exact va_iald hx hb hK.1 r.1 (a - 1) 0 hat rfl (vin_in hi) hd kk
theorem sm_iast (hx : p.tables.exec = Jvm.exec) (hb : c.code = m_bc y) (hK : KK D dA s) (r : RP b base L xs D dA w h H) {H0 : Heap} (hS : va_S (fun q => base ≤ q) H0 H locs) {a : Nat} {i x : Int32} (hs : (w.1 a).1 = 20) (h0 : a ≠ 0) (hi : vin i (w.1 a).2) (hd : decode (m_bc y) pc = .ok (.iastore, 1))
    (kk : ∀ (H1 : Heap) (locs1 : List Loc), RP b base L xs D dA w (u2 h.1 a i.toNatClampNeg x, h.2.1, h.2.2) H1 → va_S (fun q => base ≤ q) H0 H1 locs1 → W p l e R s m args below meth c H1 locs1 cells slots Q (F0 m (pc + 1) rl rest)) : W p l e R s m args below meth c H locs cells slots Q (F0 m pc rl (.int x :: .int i :: .ref (rho b base a) :: rest)) := by
  have hat := r.at (a := a) (by rw [hs]; decide) h0
  have hle : a ≤ w.2.1 := r.live (by rw [hs]; decide)
  rw [ent_int hs] at hat
  refine va_iast hx hb hK.1 r.1 wsO_D hS (a - 1) 0 hat rfl (vin_in hi) hd (fun H1 locs1 hP1 hD1 hS1 => kk H1 locs1 (r.stI h0 hle (fun c hc j => ⟨by simp [u2, hc], rfl, rfl⟩) ?_ hP1) hS1)
  rw [ent_int hs]
  congr 4
  funext j
  simp [u2, upd]
theorem sm_copy (hx : p.tables.exec = Jvm.exec) (hb : c.code = m_bc y) (hml : c.maxLocals = rl.size) (hown : s.vm.findClass (Rn (m_oc y)) = some m.cls) (hts : ∀ w ∈ tb, w.before args s = true) (hK : KK D dA s) (r : RP b base L xs D dA w h H) {H0 : Heap} (hS : va_S (fun q => base ≤ q) H0 H locs) {i a0 a1 : Nat} (hw : Cond.methodLink (Rn (m_oc y)) i arraycopyName ∈ tb) {sp dp n : Int32} (z0 : a0 ≠ 0) (z1 : a1 ≠ 0) (s0 : (w.1 a0).1 = 20) (s1 : (w.1 a1).1 = 20) (h1 : ¬ sp < 0) (h2 : ¬ dp < 0) (h3 : ¬ n < 0) (h4 : sp.toNatClampNeg + n.toNatClampNeg ≤ (w.1 a0).2) (h5 : dp.toNatClampNeg + n.toNatClampNeg ≤ (w.1 a1).2)
    (hfr : 1 ≤ R.frames) (hlo : (rest.map fun v => v.category).sum + (nativeFrameWords "java/lang/System" "arraycopy" 5 + 11) ≤ R.locals) (hd : decode (m_bc y) pc = .ok (.invokestatic i, 3))
    (kk : ∀ (H1 : Heap) (locs1 : List Loc), RP b base L xs D dA w (uA h.1 a1 (va_cpy (h.1 a0) (h.1 a1) sp.toNatClampNeg dp.toNatClampNeg n.toNatClampNeg), h.2.1, h.2.2) H1 → va_S (fun q => base ≤ q) H0 H1 locs1 → W p l e R s m args below meth c H1 locs1 cells slots Q (F0 m (pc + 3) rl rest)) : W p l e R s m args below meth c H locs cells slots Q (F0 m pc rl (.int n :: .int dp :: .ref (rho b base a1) :: .int sp :: .ref (rho b base a0) :: rest)) := by
  have hat0 := r.at (a := a0) (by rw [s0]; decide) z0
  have hat1 := r.at (a := a1) (by rw [s1]; decide) z1
  have hle : a1 ≤ w.2.1 := r.live (by rw [s1]; decide)
  rw [ent_int s0] at hat0
  rw [ent_int s1] at hat1
  refine va_copyi (ty := .int) hx hb hml hown (hts _ hw) (hts _ w_aN) (hts _ w_aS) (hts _ w_sI) hK.1 r.1 wsO_D hS (a0 - 1) (a1 - 1) 0 0 hat0 hat1 rfl rfl rfl h1 h2 h3 h4 h5 (fun _ _ => rfl) hfr hlo hd (fun H1 locs1 hP1 hD1 hS1 => kk H1 locs1 (r.stI z1 hle (fun c hc j => ⟨by simp [uA, hc], rfl, rfl⟩) ?_ hP1) hS1)
  rw [ent_int s1]
  congr 4
  funext j
  simp [uA]
theorem kd_ty {kd : Nat} (hk : kd = 21 ∨ kd = 22 ∨ kd = 23) : ([(dA 0, .int), (dA 1, .object RX2), (dA 2, .object RX5), (dA 3, .object RX1)] : List (ClassId × FieldType))[kd - 20]? = some (dA (kd - 20), .object (Rn (clOf (kd - 20)))) := by
  rcases hk with rfl | rfl | rfl <;> rfl
theorem sm_aald (hx : p.tables.exec = Jvm.exec) (hb : c.code = m_bc y) (hK : KK D dA s) (r : RP b base L xs D dA w h H) {a : Nat} {i : Int32} (hs : (w.1 a).1 = 21 ∨ (w.1 a).1 = 22 ∨ (w.1 a).1 = 23) (hi : vin i (w.1 a).2) (hd : decode (m_bc y) pc = .ok (.aaload, 1))
    (kk : W p l e R s m args below meth c H locs cells slots Q (F0 m (pc + 1) rl (rv b base (va_rf (h.2.1 a i.toNatClampNeg)) :: rest))) : W p l e R s m args below meth c H locs cells slots Q (F0 m pc rl (.int i :: .ref (rho b base a) :: rest)) := by
  have hat := r.at (a := a) (by omega) (r.obj0 (by omega))
  rw [ent_ref hs] at hat
  refine va_aldq hx hb hK.1 r.1 (a - 1) ((w.1 a).1 - 20) hat (kd_ty hs) (vin_in hi) hd ?_
  rw [← rv_rf]
  exact kk
theorem sm_aast (hx : p.tables.exec = Jvm.exec) (hb : c.code = m_bc y) (hK : KK D dA s) (r : RP b base L xs D dA w h H) {H0 : Heap} (hS : va_S (fun q => base ≤ q) H0 H locs) {a x : Nat} {i : Int32} (hs : (w.1 a).1 = 21 ∨ (w.1 a).1 = 22 ∨ (w.1 a).1 = 23) (hv : w.1 x = (clOf ((w.1 a).1 - 20), 0)) (hi : vin i (w.1 a).2) (hd : decode (m_bc y) pc = .ok (.aastore, 1))
    (kk : ∀ (H1 : Heap) (locs1 : List Loc), RP b base L xs D dA w (h.1, u2 h.2.1 a i.toNatClampNeg (some x), h.2.2) H1 → va_S (fun q => base ≤ q) H0 H1 locs1 → W p l e R s m args below meth c H1 locs1 cells slots Q (F0 m (pc + 1) rl rest)) : W p l e R s m args below meth c H locs cells slots Q (F0 m pc rl (.ref (rho b base x) :: .int i :: .ref (rho b base a) :: rest)) := by
  have h0 : a ≠ 0 := r.obj0 (by omega)
  have hat := r.at (a := a) (by omega) h0
  have hle : a ≤ w.2.1 := r.live (by omega)
  have hcl : clOf ((w.1 a).1 - 20) < 11 := by rcases hs with q | q | q <;> rw [q] <;> decide
  have hatx := r.at (a := x) (by rw [hv]; show clOf _ < 99; omega) (r.obj0 (by rw [hv]; show clOf _ ≠ 20; omega))
  rw [ent_ref hs] at hat
  rw [ent_obj hv hcl] at hatx
  refine va_astq (r := (Rn (clOf ((w.1 a).1 - 20)), Tn (clOf ((w.1 a).1 - 20)), nfOf (clOf ((w.1 a).1 - 20)))) hx hb hK.1 r.1 wsO_D hS (a - 1) ((w.1 a).1 - 20) (x - 1) (clOf ((w.1 a).1 - 20)) hat (kd_ty hs) hatx (vw_at _ hcl) (vin_in hi) hd (fun H1 locs1 hP1 hD1 hS1 => kk H1 locs1 (r.stI h0 hle (fun c hc j => ⟨rfl, by simp [u2, hc], rfl⟩) ?_ hP1) hS1)
  rw [ent_ref hs]
  congr 7
  funext j
  by_cases e : j = i.toNatClampNeg
  · simp [u2, va_up, e]
  · simp [u2, va_up, e]
theorem sm_alen (hx : p.tables.exec = Jvm.exec) (hb : c.code = m_bc y) (hK : KK D dA s) (r : RP b base L xs D dA w h H) (hX : va_X b L xs s s.heap) (hbl : b < base) (hbs : base ≤ s.heap.size) (hS : va_S (fun q => base ≤ q) s.heap H locs) {a : Nat} (hs : (w.1 a).1 = 20 ∨ (w.1 a).1 = 21 ∨ (w.1 a).1 = 22 ∨ (w.1 a).1 = 23) (hd : decode (m_bc y) pc = .ok (.arraylength, 1))
    (kk : W p l e R s m args below meth c H locs cells slots Q (F0 m (pc + 1) rl (.int (nI (w.1 a).2) :: rest))) : W p l e R s m args below meth c H locs cells slots Q (F0 m pc rl (.ref (rho b base a) :: rest)) := by
  by_cases h0 : a = 0
  · subst h0
    refine va_slen (b := b) (A := fun q => base ≤ q) hx hb hX (Nat.lt_of_lt_of_le hbl hbs) (Nat.not_le.mpr hbl) hS hd ?_
    rw [r.2.1] at kk
    exact kk
  · have hat := r.at (a := a) (by omega) h0
    rcases hs with hs | hs
    · rw [ent_int hs] at hat
      exact va_alen hx hb hK.1 r.1 (a - 1) 0 hat rfl rfl hd kk
    · rw [ent_ref hs] at hat
      exact va_alen hx hb hK.1 r.1 (a - 1) ((w.1 a).1 - 20) hat (kd_ty hs) rfl hd kk
/-- a new cell's address -/
theorem q_new {T : State} {n0 q : Nat} {E : va_E} {H1 : Heap} (hz : s.heap.size = base + n0) (hc : w.2.1 = n0 + cells) {slots' : Nat} (hT : T.heap = H1) (X : Stand p l e R s m args below meth c T locs (cells + 1) slots') (hP : va_P D vwCl (wsO b base dA w h ++ [(q, E)]) H1) (hD : va_D (fun q => base ≤ q) (wsO b base dA w h ++ [(q, E)])) : q = base + w.2.1 := by
  have h2 : T.heap.size ≤ s.heap.size + (cells + 1) := X.same.2.2.1
  rw [hT] at h2
  have hl : (wsO b base dA w h).length = w.2.1 := by simp [wsO]
  have hq : (wsO b base dA w h ++ [(q, E)])[w.2.1]? = some (q, E) := by
    rw [List.getElem?_append_right (by omega), hl, Nat.sub_self]; rfl
  have h3 := (hP _ _ hq).lt
  have h4 : base ≤ q := hD.2 _ _ hq
  dsimp only at h3
  rcases Nat.lt_or_ge q (base + w.2.1) with z | z
  · exfalso
    have h5 := wsO_at (b := b) (base := base) (dA := dA) (w := w) (h := h) (a := q - base + 1) (by omega) (by omega)
    have h6 : (wsO b base dA w h ++ [(q, E)])[q - base]? = some (rho b base (q - base + 1), ent b base dA w h (q - base + 1)) := by
      rw [List.getElem?_append_left (by omega)]
      exact h5
    have := hD.1 _ _ _ _ hq h6 (by simp only [rho, Nat.add_eq_zero_iff, Nat.one_ne_zero, and_false, if_false]; omega)
    omega
  · omega
theorem sm_new (hx : p.tables.exec = Jvm.exec) (hb : c.code = m_bc y) (hown : s.vm.findClass (Rn (m_oc y)) = some m.cls) (hts : ∀ w ∈ tb, w.before args s = true) (hK : KK D dA s) (r : RP b base L xs D dA w h H) (hS : va_S (fun q => base ≤ q) s.heap H locs) {n0 : Nat} (hz : s.heap.size = base + n0) (hc : w.2.1 = n0 + cells) {i ci p1 p2 p3 : Nat} (hf : nRes (m_oc y) i = some (ci, p1, p2, p3)) (hce : cells + 1 ≤ R.cells) (hsl : slots + nfOf ci ≤ R.slots) (hd : decode (m_bc y) pc = .ok (.new i, 3))
    (kk : ∀ H1 : Heap, RP b base L xs D dA (alc w (ci, 0) (nfOf ci)) h H1 → va_S (fun q => base ≤ q) s.heap H1 locs → W p l e R s m args below meth c H1 locs (cells + 1) (slots + nfOf ci) Q (F0 m (pc + 3) rl (.ref (rho b base (w.2.1 + 1)) :: rest))) : W p l e R s m args below meth c H locs cells slots Q (F0 m pc rl rest) := by
  obtain ⟨hci, g1, g2, g3⟩ := res_n hf
  have hs : (alc w (ci, 0) (nfOf ci)).1 (w.2.1 + 1) = (ci, 0) := if_pos rfl
  refine va_new (D := D) (cl := vwCl) (C := Rn ci) (T := Tn ci) (N := nfOf ci) (ci := ci) (fs := (List.range (nfOf ci)).map (fun k => rv b base (rdF h (gtg ci k) (w.2.1 + 1) k))) hx hb hts (in_ws hci) (tyN ci) (ty_ok ci hci) hown (hts _ g1) (hts _ g2) (hts _ g3) hK.1 r.1 wsO_D hS (fun q hq => by omega) (vw_at ci hci) ?_ hce hsl hd (fun q H1 hP1 hD1 hS1 => ?_)
  · intro j hj
    have hfr := (r.2.2.2 (w.2.1 + 1) (by omega)).2 j
    unfold vp_V
    rw [List.getD_eq_getElem?_getD, List.getElem?_map, List.getElem?_range hj]
    show _ = rv b base (rdF h (gtg ci j) (w.2.1 + 1) j)
    simp only [rdF, hfr.1, hfr.2.1, hfr.2.2]
    rcases chG_ty hci hj with ⟨q1, q2⟩ | ⟨q1, q2⟩ | ⟨q1, q2⟩ | ⟨q1, ⟨C, q2⟩ | ⟨C, q2⟩⟩ <;> rw [q2] <;> simp [q1, defaultValue, rv, va_rf]
  · intro T hT X
    have hq := q_new hz hc hT X hP1 hD1
    subst hq
    rw [← ent_obj (b := b) (base := base) (dA := dA) hs hci] at hP1
    have := kk H1 (r.new hP1) hS1 T hT X
    simpa [rho] using this
theorem sm_newa (hx : p.tables.exec = Jvm.exec) (hb : c.code = m_bc y) (hts : ∀ w ∈ tb, w.before args s = true) (hK : KK D dA s) (r : RP b base L xs D dA w h H) (hS : va_S (fun q => base ≤ q) s.heap H locs) {n0 : Nat} (hz : s.heap.size = base + n0) (hc : w.2.1 = n0 + cells) {n : Int32} (hn : ¬ n < 0) (hn2 : n.toNatClampNeg ≤ 5000) (hce : cells + 1 ≤ R.cells) (hsl : slots + n.toNatClampNeg ≤ R.slots) (hd : decode (m_bc y) pc = .ok (.newarray .int, 2))
    (kk : ∀ H1 : Heap, RP b base L xs D dA (alc w (20, n.toNatClampNeg) n.toNatClampNeg) h H1 → va_S (fun q => base ≤ q) s.heap H1 locs → W p l e R s m args below meth c H1 locs (cells + 1) (slots + n.toNatClampNeg) Q (F0 m (pc + 2) rl (.ref (rho b base (w.2.1 + 1)) :: rest))) : W p l e R s m args below meth c H locs cells slots Q (F0 m pc rl (.int n :: rest)) := by
  refine va_newa (atype := .int) (ty := .int) (a0 := (n.toNatClampNeg, .inl (fun _ => 0))) hx hb (hts _ w_arI) rfl hK.1 r.1 wsO_D hS (fun q hq => by omega) (fun _ => rfl) hn rfl (by show n.toNatClampNeg * 4 ≤ _; omega) hce hsl hd (fun q cA H1 hK1 hP1 hD1 hS1 => ?_)
  intro T hT X
  have hq := q_new hz hc hT X hP1 hD1
  subst hq
  have e1 : cA = dA 0 := by
    have f1 : s.vm.findClass ("[" ++ FieldType.int.toString) = some cA := (hK1.2 4 _ rfl).2
    have f2 : s.vm.findClass ("[" ++ FieldType.int.toString) = some (dA 0) := (hK.1.2 0 _ rfl).2
    exact Option.some.inj (f1.symm.trans f2)
  have e2 : ent b base dA (alc w (20, n.toNatClampNeg) n.toNatClampNeg) h (w.2.1 + 1) = .inl (cA, (n.toNatClampNeg, .inl (fun _ => 0))) := by
    have hs : (alc w (20, n.toNatClampNeg) n.toNatClampNeg).1 (w.2.1 + 1) = (20, n.toNatClampNeg) := if_pos rfl
    rw [ent_int (by rw [hs]), hs, e1]
    congr 4
    funext j
    exact ((r.2.2.2 (w.2.1 + 1) (by omega)).2 j).1
  rw [← e2] at hP1
  have := kk H1 (r.new hP1) hS1 T hT X
  simpa [rho] using this
theorem sm_newq (hx : p.tables.exec = Jvm.exec) (hb : c.code = m_bc y) (hown : s.vm.findClass (Rn (m_oc y)) = some m.cls) (hts : ∀ w ∈ tb, w.before args s = true) (hK : KK D dA s) (r : RP b base L xs D dA w h H) (hS : va_S (fun q => base ≤ q) s.heap H locs) {n0 : Nat} (hz : s.heap.size = base + n0) (hc : w.2.1 = n0 + cells) {i ci p1 p2 p3 : Nat} (hf : nRes (m_oc y) i = some (ci, p1, p2, p3)) (hkd : kdOf ci ≠ 0) {n : Int32} (hn : ¬ n < 0) (hn2 : n.toNatClampNeg ≤ 5000) (hce : cells + 1 ≤ R.cells) (hsl : slots + n.toNatClampNeg ≤ R.slots) (hd : decode (m_bc y) pc = .ok (.anewarray i, 3))
    (kk : ∀ H1 : Heap, RP b base L xs D dA (alc w (20 + kdOf ci, n.toNatClampNeg) n.toNatClampNeg) h H1 → va_S (fun q => base ≤ q) s.heap H1 locs → W p l e R s m args below meth c H1 locs (cells + 1) (slots + n.toNatClampNeg) Q (F0 m (pc + 3) rl (.ref (rho b base (w.2.1 + 1)) :: rest))) : W p l e R s m args below meth c H locs cells slots Q (F0 m pc rl (.int n :: rest)) := by
  obtain ⟨hci, g1, g2, g3⟩ := res_n hf
  have hc3 : ci = 2 ∨ ci = 5 ∨ ci = 1 := by
    unfold kdOf at hkd
    by_cases z1 : ci = 2
    · exact Or.inl z1
    · by_cases z2 : ci = 5
      · exact Or.inr (Or.inl z2)
      · by_cases z3 : ci = 1
        · exact Or.inr (Or.inr z3)
        · simp [z1, z2, z3] at hkd
  have hao : va_AO (Rn ci) s := by
    rcases hc3 with rfl | rfl | rfl
    · exact hK.2.2.1
    · exact hK.2.2.2.1
    · exact hK.2.2.2.2
  have hty : ([(dA 0, .int), (dA 1, .object RX2), (dA 2, .object RX5), (dA 3, .object RX1)] : List (ClassId × FieldType))[kdOf ci]? = some (dA (kdOf ci), .object (Rn ci)) := by
    rcases hc3 with rfl | rfl | rfl <;> rfl
  have hkr : 20 + kdOf ci = 21 ∨ 20 + kdOf ci = 22 ∨ 20 + kdOf ci = 23 := by
    rcases hc3 with rfl | rfl | rfl <;> decide
  refine va_newq (C := Rn ci) hx hb hown (hts _ g1) hao hK.1 r.1 wsO_D hS (fun q hq => by omega) hn rfl (by omega) hce hsl hd (fun q cA H1 hK1 hP1 hD1 hS1 => ?_)
  intro T hT X
  have hq := q_new hz hc hT X hP1 hD1
  subst hq
  have e1 : cA = dA (kdOf ci) := by
    obtain ⟨_, _, _, _, _, f1⟩ := (hK1.2 4 _ rfl).2
    obtain ⟨_, _, _, _, _, f2⟩ := (hK.1.2 _ _ hty).2
    exact Option.some.inj (f1.symm.trans f2)
  have e2 : ent b base dA (alc w (20 + kdOf ci, n.toNatClampNeg) n.toNatClampNeg) h (w.2.1 + 1) = .inl (cA, n.toNatClampNeg, .inr (.inr (.inr (.inr (fun _ => none))))) := by
    have hs : (alc w (20 + kdOf ci, n.toNatClampNeg) n.toNatClampNeg).1 (w.2.1 + 1) = (20 + kdOf ci, n.toNatClampNeg) := if_pos rfl
    rw [ent_ref (by rw [hs]; exact hkr), hs, e1]
    dsimp only
    rw [Nat.add_sub_cancel_left]
    congr 7
    funext j
    rw [((r.2.2.2 (w.2.1 + 1) (by omega)).2 j).2.1]
    rfl
  rw [← e2] at hP1
  have := kk H1 (r.new hP1) hS1 T hT X
  simpa [rho] using this
end SM
