/-! ===== every instruction ===== -/
theorem res_c {oc i kd id p1 p2 p3 p4 : Nat} (h : cRes oc i = some (kd, id, p1, p2, p3, p4)) :
    (kd = 4 → Cond.methodLink (Rn oc) i Lib.objectInit ∈ tb) ∧ (kd = 5 → Cond.methodLink (Rn oc) i Lib.Math.max.name ∈ tb) ∧ (kd = 6 → Cond.methodLink (Rn oc) i Lib.Math.min.name ∈ tb) ∧ (kd = 7 → Cond.methodLink (Rn oc) i arraycopyName ∈ tb) ∧
    (kd < 4 → ∀ z, mtL[id]? = some z → Cond.initialized (m_nm z).cls ∈ tb ∧ (kd = 0 → Cond.methodLink (Rn oc) i (m_nm z) ∈ tb ∧ Cond.instanceMethod (m_nm z) ∈ tb ∧ Cond.selects (m_nm z).cls (m_nm z) (m_nm z) ∈ tb) ∧ (kd = 1 → Cond.methodLink (Rn oc) i (m_nm z) ∈ tb ∧ Cond.static (m_nm z) ∈ tb) ∧ (kd = 2 → (oc, i, m_nm z) ∈ nestL ∧ Cond.static (m_nm z) ∈ tb) ∧ (kd = 3 → Cond.methodLink (Rn oc) i (m_nm z) ∈ tb ∧ Cond.instanceMethod (m_nm z) ∈ tb ∧ (m_nm z).name = "<init>" ∧ m_rt z = none)) := by
  obtain ⟨h1, h2⟩ := lk_memD h
  have hc := chC_ok oc h1 _ h2
  refine ⟨?_, ?_, ?_, ?_, ?_⟩
  · rintro rfl
    simp only [chC, if_true, decide_eq_true_eq] at hc
    exact at_tb hc rfl
  · rintro rfl
    simp only [chC, if_true, decide_eq_true_eq, Nat.reduceEqDiff, if_false] at hc
    exact at_tb hc rfl
  · rintro rfl
    simp only [chC, if_true, decide_eq_true_eq, Nat.reduceEqDiff, if_false] at hc
    exact at_tb hc rfl
  · rintro rfl
    simp only [chC, if_true, decide_eq_true_eq, Nat.reduceEqDiff, if_false] at hc
    exact at_tb hc rfl
  · intro hk z hz
    simp only [chC] at hc
    rw [if_neg (by omega), if_neg (by omega), if_neg (by omega), if_neg (by omega), hz] at hc
    simp only [Bool.and_eq_true, decide_eq_true_eq] at hc
    refine ⟨at_tb hc.1 rfl, ?_, ?_, ?_, ?_⟩
    · rintro rfl
      have := hc.2
      simp only [if_true, Bool.and_eq_true, decide_eq_true_eq] at this
      exact ⟨at_tb this.1.1 rfl, at_tb this.1.2 rfl, at_tb this.2 rfl⟩
    · rintro rfl
      have := hc.2
      simp only [if_true, Bool.and_eq_true, decide_eq_true_eq, Nat.reduceEqDiff, if_false, Nat.one_ne_zero] at this
      exact ⟨at_tb this.1 rfl, at_tb this.2 rfl⟩
    · rintro rfl
      have := hc.2
      simp only [if_true, Bool.and_eq_true, decide_eq_true_eq, Nat.reduceEqDiff, if_false] at this
      exact ⟨nest_all oc h1 _ h2 rfl z hz, at_tb this.2 rfl⟩
    · rintro rfl
      have := hc.2
      simp only [if_true, Bool.and_eq_true, decide_eq_true_eq, Nat.reduceEqDiff, if_false] at this
      exact ⟨at_tb this.1.1.1 rfl, at_tb this.1.1.2 rfl, this.1.2, this.2⟩
section SS
variable {p : Program} {l : Launch} {e : Env} {R : Room} {s : State} {m : MethodId} {args : Array Value} {below : List Frame} {meth : Method} {c : Code} {Q : State → Prop}
variable {b base L : Nat} {xs : Nat → Int32} {D : va_G} {dA : Nat → ClassId} {w : WS} {h : HS} {pc : Nat} {y : ME} {n0 s0 : Nat} {E : EX}
set_option maxHeartbeats 4000000 in
theorem snd_inv {o : Option Value × WS × HS} {ls st : List Value} {op i : Nat} (ih : Snd l b base L xs D dA E) (hge : Ge E) (C : Cx b base L xs D dA n0 p R s m args meth c y) (hret : Rt b base L xs D dA n0 s0 p l e R s m args below meth c Q y o) (hh : inv E y pc ls st w h op i = some o) (hd0 : op = 0 → decode (m_bc y) pc = .ok (.invokevirtual i, 3)) (hd1 : op = 1 → decode (m_bc y) pc = .ok (.invokespecial i, 3)) (hd2 : op = 2 → decode (m_bc y) pc = .ok (.invokestatic i, 3)) : Gl b base L xs D dA n0 s0 p l e R s m args below meth c Q y pc ls st w h := by
  intro rl H locs cells slots hl r hS hc hs
  have C0 := C
  obtain ⟨hx, hb, hml, hown, hts, hK, hin, hf, hlo, hsz, hbl, hX⟩ := C0
  have hrl : c.maxLocals = rl.size := hml.trans hl.2.1.symm
  unfold inv at hh
  split at hh
  · next kd id pls he =>
    obtain ⟨p1, p2, p3, p4⟩ := pls
    obtain ⟨r4, r5, r6, r7, rr⟩ := res_c he
    split at hh
    · next k0 =>
      rw [gd_some] at hh
      obtain ⟨h0, hh⟩ := hh
      split at hh
      · next z hz =>
        obtain ⟨g1, g2, -⟩ := rr (by omega) z hz
        obtain ⟨g3, g4, g5⟩ := g2 k0
        exact sm_calV ih hge C (List.mem_of_getElem? hz) hh hret hl r hS hc hs (hd0 h0) g1 g3 g4 g5
      · cases hh
    · split at hh
      · next k0 =>
        rw [gd_some] at hh
        obtain ⟨h0, hh⟩ := hh
        split at hh
        · next z hz =>
          obtain ⟨g1, -, g2, -⟩ := rr (by omega) z hz
          obtain ⟨g3, g4⟩ := g2 k0
          exact sm_calS ih hge C (List.mem_of_getElem? hz) hh hret hl r hS hc hs (hd2 h0) g1 (Or.inl g3) g4
        · cases hh
      · split at hh
        · next k0 =>
          rw [gd_some] at hh
          obtain ⟨h0, hh⟩ := hh
          split at hh
          · next z hz =>
            obtain ⟨g1, -, -, g2, -⟩ := rr (by omega) z hz
            obtain ⟨g3, g4⟩ := g2 k0
            exact sm_calS ih hge C (List.mem_of_getElem? hz) hh hret hl r hS hc hs (hd2 h0) g1 (Or.inr g3) g4
          · cases hh
        · split at hh
          · next k0 =>
            rw [gd_some] at hh
            obtain ⟨h0, hh⟩ := hh
            split at hh
            · next z hz =>
              obtain ⟨g1, -, -, -, g2⟩ := rr (by omega) z hz
              obtain ⟨g3, g4, g5, g6⟩ := g2 k0
              exact sm_calI ih hge C (List.mem_of_getElem? hz) hh hret hl r hS hc hs (hd1 h0) g1 g3 g4 g5 g6
            · cases hh
          · split at hh
            · next k0 =>
              simp only [gd_some, popR_some] at hh
              obtain ⟨⟨h0, h1⟩, a, t, rfl, h4, hh⟩ := hh
              have hcat := cat_rv b base t
              refine W.objInit hx hb hown (hts _ (r4 k0)) (hts _ w_oI) (hts _ w_oC) (a := rho b base a) (rest := t.map (rv b base)) rfl hrl.symm rfl (hd1 h0) (by omega) ?_ ?_
              · show 2 * 0 + _ + 12 ≤ _; omega
              · exact ih y p e R s m args below meth c Q n0 s0 C _ _ _ _ _ _ hh hret rl H locs cells slots hl r hS hc hs
            · split at hh
              · next k0 =>
                simp only [gd_some, popI_some] at hh
                obtain ⟨⟨h0, h1⟩, x2, t2, rfl, x1, t, rfl, h4, hh⟩ := hh
                have hcat := cat_rv b base t
                have hg := hge _ _ _ _ _ _ _ _ _ hh
                have hr1 := hret.1
                have hr2 := hret.2.1
                refine va_mmax hx hb hrl hown (hts _ (r5 k0)) (hts _ w_maxS) (hts _ w_mI) (hts _ w_maxC) (by omega) (by omega) ?_ ?_ (hd2 h0) ?_
                · obtain ⟨ro, wo, ho⟩ := o; dsimp only at *; omega
                · obtain ⟨ro, wo, ho⟩ := o; dsimp only at *; omega
                · exact ih y p e R s m args below meth c Q n0 s0 C _ _ _ _ _ _ hh hret rl H locs cells slots hl r hS hc hs
              · split at hh
                · next k0 =>
                  simp only [gd_some, popI_some] at hh
                  obtain ⟨⟨h0, h1⟩, x2, t2, rfl, x1, t, rfl, h4, hh⟩ := hh
                  have hcat := cat_rv b base t
                  have hg := hge _ _ _ _ _ _ _ _ _ hh
                  have hr1 := hret.1
                  have hr2 := hret.2.1
                  refine va_mmin hx hb hrl hown (hts _ (r6 k0)) (hts _ w_minS) (hts _ w_mI) (hts _ w_minC) (by omega) (by omega) ?_ ?_ (hd2 h0) ?_
                  · obtain ⟨ro, wo, ho⟩ := o; dsimp only at *; omega
                  · obtain ⟨ro, wo, ho⟩ := o; dsimp only at *; omega
                  · exact ih y p e R s m args below meth c Q n0 s0 C _ _ _ _ _ _ hh hret rl H locs cells slots hl r hS hc hs
                · split at hh
                  · next k0 =>
                    simp only [gd_some, popI_some, popR_some] at hh
                    obtain ⟨⟨h0, h1⟩, n, t1, rfl, dp, t2, rfl, a1, t3, rfl, sp, t4, rfl, a0, t, rfl, ⟨h4, z0, z1, f0, f1, f2, f3, f4, f5, f6⟩, hh⟩ := hh
                    have hcat := cat_rv b base t
                    have hnf : nativeFrameWords "java/lang/System" "arraycopy" 5 + 11 ≤ 20 := by decide
                    exact sm_copy hx hb hrl hown hts hK r hS (r7 k0) z0 z1 f0 f1 f2 f3 f4 f5 f6 (by omega) (by omega) (hd2 h0) (fun H1 locs1 r1 hS1 => ih y p e R s m args below meth c Q n0 s0 C _ _ _ _ _ _ hh hret rl H1 locs1 cells slots hl r1 hS1 hc hs)
                  · cases hh
  · cases hh
theorem LR.ix {n : Nat} {rl : Array Slot} {ls : List Value} (h : LR b base rl n ls) {i : Nat} {u : Value} (hi : i < ls.length) (hu : ls.getD i .null = u) (h0 : u ≠ .null) : ∃ k : Nat, (lvO b base ls)[k]? = some (i, rv b base u) :=
  List.getElem?_of_mem (lvO_mem.mpr ⟨hi, by rw [hu]; exact h0, by rw [hu]⟩)
set_option maxHeartbeats 8000000 in
theorem snd_stq {o : Option Value × WS × HS} {ls st : List Value} {i : Instr} {len : Nat} (ih : Snd l b base L xs D dA E) (hge : Ge E) (C : Cx b base L xs D dA n0 p R s m args meth c y) (hret : Rt b base L xs D dA n0 s0 p l e R s m args below meth c Q y o) (hd : decode (m_bc y) pc = .ok (i, len)) (hlen : iln i = 0 ∨ len = iln i) (hh : stq E y pc ls st w h i = some o) : Gl b base L xs D dA n0 s0 p l e R s m args below meth c Q y pc ls st w h := by
  have C0 := C
  obtain ⟨hx, hb, hml, hown, hts, hK, hin, hf, hlo, hsz, hbl, hX⟩ := C0
  have IH : ∀ {pc' : Nat} {ls' st' : List Value} {w' : WS} {h' : HS}, E y pc' ls' st' w' h' = some o → Gl b base L xs D dA n0 s0 p l e R s m args below meth c Q y pc' ls' st' w' h' := fun hh => ih y p e R s m args below meth c Q n0 s0 C _ _ _ _ _ _ hh hret
  have hbs : base ≤ s.heap.size := by omega
  unfold stq at hh
  split at hh
  case h_1 => -- iconst
    obtain rfl : len = 1 := by simpa [iln] using hlen
    intro rl H locs cells slots hl r hS hc hs
    exact lv_iconst hx hb hd rfl (IH hh rl H locs cells slots hl r hS hc hs)
  case h_2 =>
    obtain rfl : len = 2 := by simpa [iln] using hlen
    intro rl H locs cells slots hl r hS hc hs
    exact lv_bipush hx hb hd rfl (IH hh rl H locs cells slots hl r hS hc hs)
  case h_3 =>
    obtain rfl : len = 3 := by simpa [iln] using hlen
    intro rl H locs cells slots hl r hS hc hs
    exact lv_sipush hx hb hd rfl (IH hh rl H locs cells slots hl r hS hc hs)
  case h_4 => -- ldc2_w
    obtain rfl : len = 3 := by simpa [iln] using hlen
    intro rl H locs cells slots hl r hS hc hs
    split at hh
    · next v pl he => exact lv_ldc2 hx hb hown (hts _ (res_k he)) hd (IH hh rl H locs cells slots hl r hS hc hs)
    · cases hh
  case h_5 =>
    obtain rfl : len = 1 := by simpa [iln] using hlen
    intro rl H locs cells slots hl r hS hc hs
    obtain ⟨x, e1, hh⟩ := asI_some.mp hh
    exact lv_iload_n hx hb hd rfl (hl.get e1 (by simp)) (IH hh rl H locs cells slots hl r hS hc hs)
  case h_6 =>
    obtain rfl : len = 2 := by simpa [iln] using hlen
    intro rl H locs cells slots hl r hS hc hs
    obtain ⟨x, e1, hh⟩ := asI_some.mp hh
    exact lv_iload hx hb hd (hl.get e1 (by simp)) (IH hh rl H locs cells slots hl r hS hc hs)
  case h_7 =>
    obtain rfl : len = 1 := by simpa [iln] using hlen
    intro rl H locs cells slots hl r hS hc hs
    obtain ⟨x, e1, hh⟩ := asL_some.mp hh
    exact lv_lload_n hx hb hd rfl (hl.get e1 (by simp)) (IH hh rl H locs cells slots hl r hS hc hs)
  case h_8 =>
    obtain rfl : len = 2 := by simpa [iln] using hlen
    intro rl H locs cells slots hl r hS hc hs
    obtain ⟨x, e1, hh⟩ := asL_some.mp hh
    exact lv_lload hx hb hd (hl.get e1 (by simp)) (IH hh rl H locs cells slots hl r hS hc hs)
  case h_9 =>
    obtain rfl : len = 1 := by simpa [iln] using hlen
    intro rl H locs cells slots hl r hS hc hs
    obtain ⟨x, e1, hh⟩ := asR_some.mp hh
    exact lv_aload_n hx hb hd rfl (hl.get e1 (by simp)) (IH hh rl H locs cells slots hl r hS hc hs)
  case h_10 =>
    obtain rfl : len = 2 := by simpa [iln] using hlen
    intro rl H locs cells slots hl r hS hc hs
    obtain ⟨x, e1, hh⟩ := asR_some.mp hh
    exact lv_aload hx hb hd (hl.get e1 (by simp)) (IH hh rl H locs cells slots hl r hS hc hs)
  case h_11 => -- istore_n
    obtain rfl : len = 1 := by simpa [iln] using hlen
    intro rl H locs cells slots hl r hS hc hs
    have hz := popI_some.mp hh; clear hh; obtain ⟨x, t, rfl, hh⟩ := hz
    obtain ⟨⟨g1, g2⟩, hh⟩ := stI_some.mp hh
    exact lv_istore_n hx hb hd rfl hl.2 (by rw [← hl.1]; exact g1) rfl (fun rl' hl' => IH hh rl' H locs cells slots (hl.st1 (v := .int x) g1 g2 hl') r hS hc hs)
  case h_12 =>
    obtain rfl : len = 2 := by simpa [iln] using hlen
    intro rl H locs cells slots hl r hS hc hs
    have hz := popI_some.mp hh; clear hh; obtain ⟨x, t, rfl, hh⟩ := hz
    obtain ⟨⟨g1, g2⟩, hh⟩ := stI_some.mp hh
    exact lv_istore hx hb hd hl.2 (by rw [← hl.1]; exact g1) rfl (fun rl' hl' => IH hh rl' H locs cells slots (hl.st1 (v := .int x) g1 g2 hl') r hS hc hs)
  case h_13 =>
    obtain rfl : len = 1 := by simpa [iln] using hlen
    intro rl H locs cells slots hl r hS hc hs
    have hz := popL_some.mp hh; clear hh; obtain ⟨x, t, rfl, hh⟩ := hz
    obtain ⟨⟨g1, g2⟩, hh⟩ := stL_some.mp hh
    exact lv_lstore_n hx hb hd rfl hl.2 (by rw [← hl.1]; exact g1) rfl (fun rl' hl' => IH hh rl' H locs cells slots (hl.st2 (v := .long x) g1 g2 hl') r hS hc hs)
  case h_14 =>
    obtain rfl : len = 2 := by simpa [iln] using hlen
    intro rl H locs cells slots hl r hS hc hs
    have hz := popL_some.mp hh; clear hh; obtain ⟨x, t, rfl, hh⟩ := hz
    obtain ⟨⟨g1, g2⟩, hh⟩ := stL_some.mp hh
    exact lv_lstore hx hb hd hl.2 (by rw [← hl.1]; exact g1) rfl (fun rl' hl' => IH hh rl' H locs cells slots (hl.st2 (v := .long x) g1 g2 hl') r hS hc hs)
  case h_15 =>
    obtain rfl : len = 1 := by simpa [iln] using hlen
    intro rl H locs cells slots hl r hS hc hs
    have hz := popR_some.mp hh; clear hh; obtain ⟨x, t, rfl, hh⟩ := hz
    obtain ⟨⟨g1, g2⟩, hh⟩ := stI_some.mp hh
    exact lv_astore_n hx hb hd rfl hl.2 (by rw [← hl.1]; exact g1) rfl (fun rl' hl' => IH hh rl' H locs cells slots (hl.st1 (v := .ref x) g1 g2 hl') r hS hc hs)
  case h_16 =>
    obtain rfl : len = 2 := by simpa [iln] using hlen
    intro rl H locs cells slots hl r hS hc hs
    have hz := popR_some.mp hh; clear hh; obtain ⟨x, t, rfl, hh⟩ := hz
    obtain ⟨⟨g1, g2⟩, hh⟩ := stI_some.mp hh
    exact lv_astore hx hb hd hl.2 (by rw [← hl.1]; exact g1) rfl (fun rl' hl' => IH hh rl' H locs cells slots (hl.st1 (v := .ref x) g1 g2 hl') r hS hc hs)
  case h_17 => -- iinc
    obtain rfl : len = 3 := by simpa [iln] using hlen
    intro rl H locs cells slots hl r hS hc hs
    obtain ⟨x, e1, hh⟩ := asI_some.mp hh
    obtain ⟨⟨g1, g2⟩, hh⟩ := stI_some.mp hh
    obtain ⟨kx, hkx⟩ := hl.ix g1 e1 (by simp)
    exact lv_iinc hx hb hd hl.2 hkx rfl (by rw [← hl.1]; exact g1) rfl (fun rl' hl' => IH hh rl' H locs cells slots (hl.st1 (v := .int _) g1 g2 hl') r hS hc hs)
  case h_18 =>
    obtain rfl : len = 1 := by simpa [iln] using hlen
    intro rl H locs cells slots hl r hS hc hs
    have hz := popI_some.mp hh; clear hh; obtain ⟨x, t, rfl, hh⟩ := hz
    have hz := popI_some.mp hh; clear hh; obtain ⟨x, t, rfl, hh⟩ := hz
    exact lv_iadd hx hb hd (IH hh rl H locs cells slots hl r hS hc hs)
  case h_19 =>
    obtain rfl : len = 1 := by simpa [iln] using hlen
    intro rl H locs cells slots hl r hS hc hs
    have hz := popI_some.mp hh; clear hh; obtain ⟨x, t, rfl, hh⟩ := hz
    have hz := popI_some.mp hh; clear hh; obtain ⟨x, t, rfl, hh⟩ := hz
    exact lv_isub hx hb hd (IH hh rl H locs cells slots hl r hS hc hs)
  case h_20 =>
    obtain rfl : len = 1 := by simpa [iln] using hlen
    intro rl H locs cells slots hl r hS hc hs
    have hz := popI_some.mp hh; clear hh; obtain ⟨x, t, rfl, hh⟩ := hz
    have hz := popI_some.mp hh; clear hh; obtain ⟨x, t, rfl, hh⟩ := hz
    exact lv_imul hx hb hd (IH hh rl H locs cells slots hl r hS hc hs)
  case h_21 =>
    obtain rfl : len = 1 := by simpa [iln] using hlen
    intro rl H locs cells slots hl r hS hc hs
    have hz := popI_some.mp hh; clear hh; obtain ⟨x, t, rfl, hh⟩ := hz
    have hz := popI_some.mp hh; clear hh; obtain ⟨x, t, rfl, hh⟩ := hz
    exact lv_iand hx hb hd (IH hh rl H locs cells slots hl r hS hc hs)
  case h_22 =>
    obtain rfl : len = 1 := by simpa [iln] using hlen
    intro rl H locs cells slots hl r hS hc hs
    have hz := popI_some.mp hh; clear hh; obtain ⟨x, t, rfl, hh⟩ := hz
    have hz := popI_some.mp hh; clear hh; obtain ⟨x, t, rfl, hh⟩ := hz
    exact lv_ior hx hb hd (IH hh rl H locs cells slots hl r hS hc hs)
  case h_23 =>
    obtain rfl : len = 1 := by simpa [iln] using hlen
    intro rl H locs cells slots hl r hS hc hs
    have hz := popI_some.mp hh; clear hh; obtain ⟨x, t, rfl, hh⟩ := hz
    have hz := popI_some.mp hh; clear hh; obtain ⟨x, t, rfl, hh⟩ := hz
    exact lv_ishl hx hb hd (IH hh rl H locs cells slots hl r hS hc hs)
  case h_24 =>
    obtain rfl : len = 1 := by simpa [iln] using hlen
    intro rl H locs cells slots hl r hS hc hs
    have hz := popI_some.mp hh; clear hh; obtain ⟨x, t, rfl, hh⟩ := hz
    have hz := popI_some.mp hh; clear hh; obtain ⟨x, t, rfl, hh⟩ := hz
    exact lv_ishr hx hb hd (IH hh rl H locs cells slots hl r hS hc hs)
  case h_25 =>
    obtain rfl : len = 1 := by simpa [iln] using hlen
    intro rl H locs cells slots hl r hS hc hs
    have hz := popL_some.mp hh; clear hh; obtain ⟨x, t, rfl, hh⟩ := hz
    have hz := popL_some.mp hh; clear hh; obtain ⟨x, t, rfl, hh⟩ := hz
    exact lv_ladd hx hb hd (IH hh rl H locs cells slots hl r hS hc hs)
  case h_26 =>
    obtain rfl : len = 1 := by simpa [iln] using hlen
    intro rl H locs cells slots hl r hS hc hs
    have hz := popL_some.mp hh; clear hh; obtain ⟨x, t, rfl, hh⟩ := hz
    have hz := popL_some.mp hh; clear hh; obtain ⟨x, t, rfl, hh⟩ := hz
    exact lv_lmul hx hb hd (IH hh rl H locs cells slots hl r hS hc hs)
  case h_27 =>
    obtain rfl : len = 1 := by simpa [iln] using hlen
    intro rl H locs cells slots hl r hS hc hs
    have hz := popL_some.mp hh; clear hh; obtain ⟨x, t, rfl, hh⟩ := hz
    have hz := popL_some.mp hh; clear hh; obtain ⟨x, t, rfl, hh⟩ := hz
    exact W.lcmp hx hb hd (IH hh rl H locs cells slots hl r hS hc hs)
  case h_28 =>
    obtain rfl : len = 1 := by simpa [iln] using hlen
    intro rl H locs cells slots hl r hS hc hs
    have hz := popI_some.mp hh; clear hh; obtain ⟨x, t, rfl, hh⟩ := hz
    exact lv_i2l hx hb hd rfl (IH hh rl H locs cells slots hl r hS hc hs)
  case h_29 => -- dup
    obtain rfl : len = 1 := by simpa [iln] using hlen
    intro rl H locs cells slots hl r hS hc hs
    have hz := pop1_some.mp hh; clear hh; obtain ⟨v, t, rfl, hh⟩ := hz
    obtain ⟨g1, hh⟩ := gd_some.mp hh
    exact lv_dup hx hb hd (by rw [rv_cat]; exact g1) (IH hh rl H locs cells slots hl r hS hc hs)
  case h_30 =>
    obtain rfl : len = 1 := by simpa [iln] using hlen
    intro rl H locs cells slots hl r hS hc hs
    have hz := pop1_some.mp hh; clear hh; obtain ⟨v, t, rfl, hh⟩ := hz
    have hz := pop1_some.mp hh; clear hh; obtain ⟨u, t, rfl, hh⟩ := hz
    obtain ⟨⟨g1, g2⟩, hh⟩ := gd_some.mp hh
    exact lv_dup2_11 hx hb hd (by rw [rv_cat]; exact g1) (by rw [rv_cat]; exact g2) (IH hh rl H locs cells slots hl r hS hc hs)
  case h_31 =>
    obtain rfl : len = 1 := by simpa [iln] using hlen
    intro rl H locs cells slots hl r hS hc hs
    have hz := pop1_some.mp hh; clear hh; obtain ⟨v, t, rfl, hh⟩ := hz
    obtain ⟨g1, hh⟩ := gd_some.mp hh
    exact lv_pop hx hb hd (by rw [rv_cat]; exact g1) (IH hh rl H locs cells slots hl r hS hc hs)
  case h_32 =>
    obtain rfl : len = 3 := by simpa [iln] using hlen
    intro rl H locs cells slots hl r hS hc hs
    obtain ⟨q, e1, hh⟩ := jmp_some.mp hh
    exact lv_goto hx hb hd e1 (IH hh rl H locs cells slots hl r hS hc hs)
  case h_33 => -- ifCond
    rename_i cc off
    obtain rfl : len = 3 := by simpa [iln] using hlen
    intro rl H locs cells slots hl r hS hc hs
    have hz := popI_some.mp hh; clear hh; obtain ⟨x, t, rfl, hh⟩ := hz
    obtain ⟨q, e1, hh⟩ := jmp_some.mp hh
    have hh := brc_some.mp hh
    cases cc
    · exact lv_if_eq hx hb hd e1 (fun z => IH (hh.1 z) rl H locs cells slots hl r hS hc hs) (fun z => IH (hh.2 z) rl H locs cells slots hl r hS hc hs)
    · exact lv_if_ne hx hb hd e1 (fun z => IH (hh.1 z) rl H locs cells slots hl r hS hc hs) (fun z => IH (hh.2 (fun q => q z)) rl H locs cells slots hl r hS hc hs)
    · exact lv_if_lt hx hb hd e1 (fun z => IH (hh.1 z) rl H locs cells slots hl r hS hc hs) (fun z => IH (hh.2 z) rl H locs cells slots hl r hS hc hs)
    · exact lv_if_ge hx hb hd e1 (fun z => IH (hh.1 z) rl H locs cells slots hl r hS hc hs) (fun z => IH (hh.2 z) rl H locs cells slots hl r hS hc hs)
    · exact lv_if_gt hx hb hd e1 (fun z => IH (hh.1 z) rl H locs cells slots hl r hS hc hs) (fun z => IH (hh.2 z) rl H locs cells slots hl r hS hc hs)
    · exact lv_if_le hx hb hd e1 (fun z => IH (hh.1 z) rl H locs cells slots hl r hS hc hs) (fun z => IH (hh.2 z) rl H locs cells slots hl r hS hc hs)
  case h_34 => -- if_icmp
    rename_i cc off
    obtain rfl : len = 3 := by simpa [iln] using hlen
    intro rl H locs cells slots hl r hS hc hs
    have hz := popI_some.mp hh; clear hh; obtain ⟨x2, t, rfl, hh⟩ := hz
    have hz := popI_some.mp hh; clear hh; obtain ⟨x, t, rfl, hh⟩ := hz
    obtain ⟨q, e1, hh⟩ := jmp_some.mp hh
    have hh := brc_some.mp hh
    cases cc
    · exact lv_icmp_eq hx hb hd e1 (fun z => IH (hh.1 z) rl H locs cells slots hl r hS hc hs) (fun z => IH (hh.2 z) rl H locs cells slots hl r hS hc hs)
    · exact lv_icmp_ne hx hb hd e1 (fun z => IH (hh.1 z) rl H locs cells slots hl r hS hc hs) (fun z => IH (hh.2 (fun q => q z)) rl H locs cells slots hl r hS hc hs)
    · exact lv_icmp_lt hx hb hd e1 (fun z => IH (hh.1 z) rl H locs cells slots hl r hS hc hs) (fun z => IH (hh.2 z) rl H locs cells slots hl r hS hc hs)
    · exact lv_icmp_ge hx hb hd e1 (fun z => IH (hh.1 z) rl H locs cells slots hl r hS hc hs) (fun z => IH (hh.2 z) rl H locs cells slots hl r hS hc hs)
    · exact lv_icmp_gt hx hb hd e1 (fun z => IH (hh.1 z) rl H locs cells slots hl r hS hc hs) (fun z => IH (hh.2 z) rl H locs cells slots hl r hS hc hs)
    · exact lv_icmp_le hx hb hd e1 (fun z => IH (hh.1 z) rl H locs cells slots hl r hS hc hs) (fun z => IH (hh.2 z) rl H locs cells slots hl r hS hc hs)
  case h_35 => -- tableswitch
    rename_i d lo hi offs
    intro rl H locs cells slots hl r hS hc hs
    have hz := popI_some.mp hh; clear hh; obtain ⟨x, t, rfl, hh⟩ := hz
    have hh := brc_some.mp hh
    by_cases hout : x.toInt < lo ∨ hi < x.toInt
    · obtain ⟨q, e1, hh⟩ := jmp_some.mp (hh.1 hout)
      exact lv_tableOut hx hb hd hout e1 (IH hh rl H locs cells slots hl r hS hc hs)
    · have hh := hh.2 hout
      split at hh
      · next off he =>
        obtain ⟨q, e1, hh⟩ := jmp_some.mp hh
        exact lv_tableIn hx hb hd (fun z => hout (Or.inl z)) (fun z => hout (Or.inr z)) he e1 (IH hh rl H locs cells slots hl r hS hc hs)
      · cases hh
  case h_36 => -- lookupswitch
    intro rl H locs cells slots hl r hS hc hs
    have hz := popI_some.mp hh; clear hh; obtain ⟨x, t, rfl, hh⟩ := hz
    obtain ⟨g1, hh⟩ := gd_some.mp hh
    obtain ⟨q, e1, hh⟩ := jmp_some.mp hh
    exact lv_lookup hx hb hd g1 rfl e1 (IH hh rl H locs cells slots hl r hS hc hs)
  case h_37 => -- getfield
    obtain rfl : len = 3 := by simpa [iln] using hlen
    intro rl H locs cells slots hl r hS hc hs
    split at hh
    · next ci k pl he =>
      have hz := popR_some.mp hh; clear hh; obtain ⟨a, t, rfl, hh⟩ := hz
      obtain ⟨⟨g1, g2⟩, hh⟩ := gd_some.mp hh
      exact sm_get hx hb hown hts hK r he g1 g2 hd (IH hh rl H locs cells slots hl r hS hc hs)
    · cases hh
  case h_38 => -- putfield
    obtain rfl : len = 3 := by simpa [iln] using hlen
    intro rl H locs cells slots hl r hS hc hs
    split at hh
    · next ci k pl he =>
      have hz := pop1_some.mp hh; clear hh; obtain ⟨v, t, rfl, hh⟩ := hz
      have hz := popR_some.mp hh; clear hh; obtain ⟨a, t, rfl, hh⟩ := hz
      unfold putI at hh
      simp only [gd_some] at hh
      obtain ⟨g0, ⟨g1, g2⟩, hh⟩ := hh
      obtain ⟨hci, -⟩ := res_f he
      have hty := chG_ty hci g2
      split at hh
      · next k0 =>
        have hz := asI_some.mp hh; clear hh; obtain ⟨x, rfl, hh⟩ := hz
        have ht : tyN ci k = .int := by rcases hty with q | q | q | q <;> first | exact q.2 | (exfalso; omega)
        refine sm_put (h' := (u2 h.1 a k x, h.2.1, h.2.2)) (v := .int x) hx hb hown hts hK hin r hS he g0 g1 g2 hd (by rw [ht]; rfl) (by rw [ht]; rfl) (fun j hj => ?_) ?_ (fun c' hc' j => ⟨by simp [u2, hc'], rfl, rfl⟩) (fun H1 locs1 r1 hS1 => IH hh rl H1 locs1 cells slots hl r1 hS1 hc hs)
        · simp [rdF, u2, hj]
        · simp [rdF, u2, k0]
      · split at hh
        · next k0 =>
          have hz := asI_some.mp hh; clear hh; obtain ⟨x, rfl, hh⟩ := hz
          obtain ⟨g5, hh⟩ := gd_some.mp hh
          have ht : tyN ci k = .boolean := by rcases hty with q | q | q | q <;> first | exact q.2 | (exfalso; omega)
          refine sm_put (h' := (u2 h.1 a k x, h.2.1, h.2.2)) (v := .int x) hx hb hown hts hK hin r hS he g0 g1 g2 hd (by rw [ht]; rcases g5 with rfl | rfl <;> rfl) (by rw [ht]; rcases g5 with rfl | rfl <;> rfl) (fun j hj => ?_) ?_ (fun c' hc' j => ⟨by simp [u2, hc'], rfl, rfl⟩) (fun H1 locs1 r1 hS1 => IH hh rl H1 locs1 cells slots hl r1 hS1 hc hs)
          · simp [rdF, u2, hj]
          · simp [rdF, u2, k0]
        · split at hh
          · next k0 =>
            have hz := asL_some.mp hh; clear hh; obtain ⟨x, rfl, hh⟩ := hz
            have ht : tyN ci k = .long := by rcases hty with q | q | q | q <;> first | exact q.2 | (exfalso; omega)
            refine sm_put (h' := (h.1, h.2.1, u2 h.2.2 a k x)) (v := .long x) hx hb hown hts hK hin r hS he g0 g1 g2 hd (by rw [ht]; rfl) (by rw [ht]; rfl) (fun j hj => ?_) ?_ (fun c' hc' j => ⟨rfl, rfl, by simp [u2, hc']⟩) (fun H1 locs1 r1 hS1 => IH hh rl H1 locs1 cells slots hl r1 hS1 hc hs)
            · simp [rdF, u2, hj]
            · simp [rdF, u2, k0]
          · split at hh
            · next k0 =>
              have hz := asR_some.mp hh; clear hh; obtain ⟨x, rfl, hh⟩ := hz
              have ht : (∃ C, tyN ci k = .object C) ∨ (∃ t, tyN ci k = .array t) := by rcases hty with q | q | q | q <;> first | exact q.2 | (exfalso; omega)
              refine sm_put (h' := (h.1, u2 h.2.1 a k (some x), h.2.2)) (v := .ref x) hx hb hown hts hK hin r hS he g0 g1 g2 hd (by rcases ht with ⟨C', ht⟩ | ⟨C', ht⟩ <;> rw [ht] <;> rfl) (by rcases ht with ⟨C', ht⟩ | ⟨C', ht⟩ <;> rw [ht] <;> rfl) (fun j hj => ?_) ?_ (fun c' hc' j => ⟨rfl, by simp [u2, hc'], rfl⟩) (fun H1 locs1 r1 hS1 => IH hh rl H1 locs1 cells slots hl r1 hS1 hc hs)
              · simp [rdF, u2, hj]
              · simp [rdF, u2, k0, va_rf]
            · cases hh
    · cases hh
  case h_39 => -- iaload
    obtain rfl : len = 1 := by simpa [iln] using hlen
    intro rl H locs cells slots hl r hS hc hs
    have hz := popI_some.mp hh; clear hh; obtain ⟨i, t, rfl, hh⟩ := hz
    have hz := popR_some.mp hh; clear hh; obtain ⟨a, t, rfl, hh⟩ := hz
    obtain ⟨g1, hh⟩ := gd_some.mp hh
    obtain ⟨g2, hh⟩ := gdv_some.mp hh
    exact sm_iald hx hb hK r hX hbl hbs hS g1 g2 hd (IH hh rl H locs cells slots hl r hS hc hs)
  case h_40 => -- iastore
    obtain rfl : len = 1 := by simpa [iln] using hlen
    intro rl H locs cells slots hl r hS hc hs
    have hz := popI_some.mp hh; clear hh; obtain ⟨x, t, rfl, hh⟩ := hz
    have hz := popI_some.mp hh; clear hh; obtain ⟨i, t, rfl, hh⟩ := hz
    have hz := popR_some.mp hh; clear hh; obtain ⟨a, t, rfl, hh⟩ := hz
    obtain ⟨⟨g1, g0⟩, hh⟩ := gd_some.mp hh
    obtain ⟨g2, hh⟩ := gdv_some.mp hh
    exact sm_iast hx hb hK r hS g1 g0 g2 hd (fun H1 locs1 r1 hS1 => IH hh rl H1 locs1 cells slots hl r1 hS1 hc hs)
  case h_41 => -- aaload
    obtain rfl : len = 1 := by simpa [iln] using hlen
    intro rl H locs cells slots hl r hS hc hs
    have hz := popI_some.mp hh; clear hh; obtain ⟨i, t, rfl, hh⟩ := hz
    have hz := popR_some.mp hh; clear hh; obtain ⟨a, t, rfl, hh⟩ := hz
    obtain ⟨g1, hh⟩ := gd_some.mp hh
    obtain ⟨g2, hh⟩ := gdv_some.mp hh
    exact sm_aald hx hb hK r g1 g2 hd (IH hh rl H locs cells slots hl r hS hc hs)
  case h_42 => -- aastore
    obtain rfl : len = 1 := by simpa [iln] using hlen
    intro rl H locs cells slots hl r hS hc hs
    have hz := popR_some.mp hh; clear hh; obtain ⟨x, t, rfl, hh⟩ := hz
    have hz := popI_some.mp hh; clear hh; obtain ⟨i, t, rfl, hh⟩ := hz
    have hz := popR_some.mp hh; clear hh; obtain ⟨a, t, rfl, hh⟩ := hz
    obtain ⟨⟨g1, g0⟩, hh⟩ := gd_some.mp hh
    obtain ⟨g2, hh⟩ := gdv_some.mp hh
    exact sm_aast hx hb hK r hS g1 g0 g2 hd (fun H1 locs1 r1 hS1 => IH hh rl H1 locs1 cells slots hl r1 hS1 hc hs)
  case h_43 => -- arraylength
    obtain rfl : len = 1 := by simpa [iln] using hlen
    intro rl H locs cells slots hl r hS hc hs
    have hz := popR_some.mp hh; clear hh; obtain ⟨a, t, rfl, hh⟩ := hz
    obtain ⟨g1, hh⟩ := gd_some.mp hh
    exact sm_alen hx hb hK r hX hbl hbs hS g1 hd (IH hh rl H locs cells slots hl r hS hc hs)
  case h_44 => -- new
    obtain rfl : len = 3 := by simpa [iln] using hlen
    intro rl H locs cells slots hl r hS hc hs
    split at hh
    · next ci pls he =>
      obtain ⟨p1, p2, p3⟩ := pls
      have hg := hge _ _ _ _ _ _ o.1 o.2.1 o.2.2 hh
      have hr1 := hret.1
      have hr2 := hret.2.1
      simp only [alc] at hg
      exact sm_new hx hb hown hts hK r hS hsz hc he (by omega) (by omega) hd (fun H1 r1 hS1 => IH hh rl H1 locs (cells + 1) (slots + nfOf ci) hl r1 hS1 (by simp only [alc]; omega) (by simp only [alc]; omega))
    · cases hh
  case h_45 => -- newarray
    obtain rfl : len = 2 := by simpa [iln] using hlen
    intro rl H locs cells slots hl r hS hc hs
    have hz := popI_some.mp hh; clear hh; obtain ⟨n, t, rfl, hh⟩ := hz
    obtain ⟨⟨g1, g2⟩, hh⟩ := gd_some.mp hh
    have hg := hge _ _ _ _ _ _ o.1 o.2.1 o.2.2 hh
    have hr1 := hret.1
    have hr2 := hret.2.1
    simp only [alc] at hg
    exact sm_newa hx hb hts hK r hS hsz hc g1 g2 (by omega) (by omega) hd (fun H1 r1 hS1 => IH hh rl H1 locs (cells + 1) (slots + n.toNatClampNeg) hl r1 hS1 (by simp only [alc]; omega) (by simp only [alc]; omega))
  case h_46 => -- anewarray
    obtain rfl : len = 3 := by simpa [iln] using hlen
    intro rl H locs cells slots hl r hS hc hs
    split at hh
    · next ci pls he =>
      obtain ⟨p1, p2, p3⟩ := pls
      have hz := popI_some.mp hh; clear hh; obtain ⟨n, t, rfl, hh⟩ := hz
      obtain ⟨⟨g1, g2, g3⟩, hh⟩ := gd_some.mp hh
      have hg := hge _ _ _ _ _ _ o.1 o.2.1 o.2.2 hh
      have hr1 := hret.1
      have hr2 := hret.2.1
      simp only [alc] at hg
      exact sm_newq hx hb hown hts hK r hS hsz hc he g3 g1 g2 (by omega) (by omega) hd (fun H1 r1 hS1 => IH hh rl H1 locs (cells + 1) (slots + n.toNatClampNeg) hl r1 hS1 (by simp only [alc]; omega) (by simp only [alc]; omega))
    · cases hh
  case h_47 =>
    obtain rfl : len = 3 := by simpa [iln] using hlen
    exact snd_inv ih hge C hret hh (fun _ => hd) (fun q => by omega) (fun q => by omega)
  case h_48 =>
    obtain rfl : len = 3 := by simpa [iln] using hlen
    exact snd_inv ih hge C hret hh (fun q => by omega) (fun _ => hd) (fun q => by omega)
  case h_49 =>
    obtain rfl : len = 3 := by simpa [iln] using hlen
    exact snd_inv ih hge C hret hh (fun q => by omega) (fun q => by omega) (fun _ => hd)
  case h_50 => -- ireturn
    obtain rfl : len = 1 := by simpa [iln] using hlen
    intro rl H locs cells slots hl r hS hc hs
    split at hh
    · next x =>
      have hh := rok_some.mp hh
      by_cases hk : rOK (m_rt y) x
      · have := hh.1 hk
        cases this
        exact hret.2.2 pc rl H locs cells slots ⟨hd, hk⟩ r hS hc hs
      · cases hh.2 hk
    · cases hh
  case h_51 => -- lreturn
    obtain rfl : len = 1 := by simpa [iln] using hlen
    intro rl H locs cells slots hl r hS hc hs
    split at hh
    · next x =>
      obtain ⟨g1, hh⟩ := gd_some.mp hh
      cases hh
      exact hret.2.2 pc rl H locs cells slots ⟨hd, g1⟩ r hS hc hs
    · cases hh
  case h_52 => -- return
    obtain rfl : len = 1 := by simpa [iln] using hlen
    intro rl H locs cells slots hl r hS hc hs
    split at hh
    · obtain ⟨g1, hh⟩ := gd_some.mp hh
      cases hh
      exact hret.2.2 pc rl H locs cells slots ⟨hd, g1⟩ r hS hc hs
    · cases hh
  case h_53 => cases hh
end SS
theorem snd_xc {l : Launch} {b base L : Nat} {xs : Nat → Int32} {D : va_G} {dA : Nat → ClassId} : ∀ n, Snd l b base L xs D dA (xc n)
  | 0 => fun _ _ _ _ _ _ _ _ _ _ _ _ _ _ _ _ _ _ _ _ h => by cases h
  | n + 1 => by
    intro y p e R s m args below meth c Q n0 s0 C pc ls st w h o hh hret
    have hh : stp (xc n) y pc ls st w h = some o := hh
    unfold stp at hh
    split at hh
    · next i len hd =>
      obtain ⟨g1, hh⟩ := gd_some.mp hh
      exact snd_stq (snd_xc n) (xc_ge n) C hret hd g1 hh
    · cases hh
