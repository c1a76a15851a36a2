/-! ===== a run of the small machine, backwards ===== -/
def WP (y : ME) (pc : Nat) (ls st : List Value) (w : WS) (h : HS) (K : Option Value → WS → HS → Prop) : Prop := ∃ (n : Nat) (r : Option Value) (w' : WS) (h' : HS), xc n y pc ls st w h = some (r, w', h') ∧ K r w' h'
/-- the same from an instruction on -/
def WQ (f : EX → RS) (K : Option Value → WS → HS → Prop) : Prop := ∃ (n : Nat) (r : Option Value) (w' : WS) (h' : HS), f (xc n) = some (r, w', h') ∧ K r w' h'
section WPR
variable {y : ME} {pc : Nat} {ls st : List Value} {w : WS} {h : HS} {K : Option Value → WS → HS → Prop}
theorem WP_at {i : Instr} {len : Nat} (hd : decode (m_bc y) pc = .ok (i, len)) (hl : (iln i == 0 || len == iln i) = true) : WP y pc ls st w h K ↔ WQ (fun E => stq E y pc ls st w h i) K := by
  have e : ∀ n, xc (n + 1) y pc ls st w h = stq (xc n) y pc ls st w h i := by
    intro n
    show stp (xc n) y pc ls st w h = _
    unfold stp
    rw [hd]
    have : iln i = 0 ∨ len = iln i := by simpa using hl
    simp only [gd, this, if_true]
  constructor
  · rintro ⟨n, r, w', h', h1, h2⟩
    cases n with
    | zero => cases h1
    | succ n => exact ⟨n, r, w', h', (e n).symm.trans h1, h2⟩
  · rintro ⟨n, r, w', h', h1, h2⟩
    exact ⟨n + 1, r, w', h', (e n).trans h1, h2⟩
theorem WQ_E {pc' : Nat} {ls' st' : List Value} {w' : WS} {h' : HS} : WQ (fun E => E y pc' ls' st' w' h') K ↔ WP y pc' ls' st' w' h' K := Iff.rfl
theorem WQ_gd {c : Prop} [Decidable c] {f : EX → RS} : WQ (fun E => gd c (f E)) K ↔ c ∧ WQ f K := by
  unfold WQ
  simp only [gd_some]
  constructor
  · rintro ⟨n, r, w', h', ⟨h0, h1⟩, h2⟩; exact ⟨h0, n, r, w', h', h1, h2⟩
  · rintro ⟨h0, n, r, w', h', h1, h2⟩; exact ⟨n, r, w', h', ⟨h0, h1⟩, h2⟩
theorem WQ_gdt {c : Prop} [Decidable c] (hc : c) {f : EX → RS} : WQ (fun E => gd c (f E)) K ↔ WQ f K := by
  rw [WQ_gd]; exact ⟨fun q => q.2, fun q => ⟨hc, q⟩⟩
theorem WQ_gdv {i : Int32} {n : Nat} {f : EX → RS} : WQ (fun E => gdv i n (f E)) K ↔ vin i n ∧ WQ f K := by
  unfold WQ
  simp only [gdv_some]
  constructor
  · rintro ⟨n, r, w', h', ⟨h0, h1⟩, h2⟩; exact ⟨h0, n, r, w', h', h1, h2⟩
  · rintro ⟨h0, n, r, w', h', h1, h2⟩; exact ⟨n, r, w', h', ⟨h0, h1⟩, h2⟩
theorem WQ_jmp {off : Int} {tgt : Nat} (ht : (pc : Int) + off = (tgt : Int)) {f : EX → Nat → RS} : WQ (fun E => jmp pc off (f E)) K ↔ WQ (fun E => f E tgt) K := by
  have : ∀ E, jmp pc off (f E) = f E tgt := by
    intro E
    unfold jmp gd
    rw [ht]
    simp
  unfold WQ
  simp only [this]
theorem WQ_brc {c : Prop} {d : Decidable c} {f g : EX → RS} : WQ (fun E => brc c d (f E) (g E)) K ↔ @ite _ c d (WQ f K) (WQ g K) := by
  unfold WQ brc
  by_cases hc : c <;> simp [hc]
theorem WQ_end {r : Option Value} : WQ (fun _ => some (r, w, h)) K ↔ K r w h := by
  constructor
  · rintro ⟨n, r', w', h', h1, h2⟩; cases h1; exact h2
  · intro hk; exact ⟨0, r, w, h, rfl, hk⟩
theorem WQ_cal {z : ME} {as rest : List Value} (hc : (decide (rest.length ≤ 4) && decide ((expL as).length ≤ m_ml z) && decide (m_dp z + 1 ≤ m_dp y)) = true) : WQ (fun E => cal E y z pc ls as rest w h) K ↔ WP z 0 (entL (m_ml z) as) [] w h (fun r w' h' => WP y (pc + 3) ls (r.toList ++ rest) w' h' K) := by
  simp only [Bool.and_eq_true, decide_eq_true_eq] at hc
  have e : ∀ E, cal E y z pc ls as rest w h = (match E z 0 (entL (m_ml z) as) [] w h with
    | some (r, w', h') => E y (pc + 3) ls (r.toList ++ rest) w' h'
    | none => none) := by
    intro E
    unfold cal gd
    rw [if_pos ⟨hc.1.1, hc.1.2, hc.2⟩]
    rfl
  unfold WQ
  simp only [e]
  constructor
  · rintro ⟨n, r, w', h', h1, h2⟩
    split at h1
    · next r1 w1 h1' he => exact ⟨n, r1, w1, h1', he, n, r, w', h', h1, h2⟩
    · cases h1
  · rintro ⟨n, r1, w1, h1, he, n2, r, w', h', h2, h3⟩
    refine ⟨n + n2, r, w', h', ?_, h3⟩
    rw [xc_le (Nat.le_add_right n n2) _ _ _ _ _ _ _ he]
    exact xc_le (Nat.le_add_left n2 n) _ _ _ _ _ _ _ h2
theorem WP_mono {K' : Option Value → WS → HS → Prop} (hk : ∀ r w h, K r w h → K' r w h) (hw : WP y pc ls st w h K) : WP y pc ls st w h K' := by
  obtain ⟨n, r, w', h', h1, h2⟩ := hw
  exact ⟨n, r, w', h', h1, hk _ _ _ h2⟩
/-- an answer, once known, is the answer -/
theorem WP_det {r0 : Option Value} {w0 : WS} {h0 : HS} (hw : WP y pc ls st w h (fun r w' h' => r = r0 ∧ w' = w0 ∧ h' = h0)) : WP y pc ls st w h K ↔ K r0 w0 h0 := by
  obtain ⟨n, r, w', h', h1, rfl, rfl, rfl⟩ := hw
  constructor
  · rintro ⟨n2, r2, w2, h2, e2, k⟩
    have a := xc_le (Nat.le_add_right n n2) _ _ _ _ _ _ _ h1
    have b := xc_le (Nat.le_add_left n2 n) _ _ _ _ _ _ _ e2
    rw [a] at b
    cases b
    exact k
  · intro k; exact ⟨n, _, _, _, h1, k⟩
-- the rules, by kinds of instruction
theorem rl_go {i : Instr} {len : Nat} {pc' : Nat} {ls' st' : List Value} {w' : WS} {h' : HS} (hd : decode (m_bc y) pc = .ok (i, len)) (hl : (iln i == 0 || len == iln i) = true) (he : ∀ E : EX, stq E y pc ls st w h i = E y pc' ls' st' w' h') : WP y pc ls st w h K ↔ WP y pc' ls' st' w' h' K := by
  rw [WP_at hd hl]
  simp only [he]
  exact Iff.rfl
theorem rl_gd {i : Instr} {len : Nat} {pc' : Nat} {ls' st' : List Value} {w' : WS} {h' : HS} {c : Prop} [Decidable c] (hd : decode (m_bc y) pc = .ok (i, len)) (hl : (iln i == 0 || len == iln i) = true) (he : ∀ E : EX, stq E y pc ls st w h i = gd c (E y pc' ls' st' w' h')) : WP y pc ls st w h K ↔ c ∧ WP y pc' ls' st' w' h' K := by
  rw [WP_at hd hl]
  simp only [he]
  rw [WQ_gd]
  exact Iff.rfl
theorem rl_gt {i : Instr} {len : Nat} {pc' : Nat} {ls' st' : List Value} {w' : WS} {h' : HS} {c : Prop} [Decidable c] (hc : c) (hd : decode (m_bc y) pc = .ok (i, len)) (hl : (iln i == 0 || len == iln i) = true) (he : ∀ E : EX, stq E y pc ls st w h i = gd c (E y pc' ls' st' w' h')) : WP y pc ls st w h K ↔ WP y pc' ls' st' w' h' K := by
  rw [rl_gd hd hl he]
  exact ⟨fun q => q.2, fun q => ⟨hc, q⟩⟩
theorem rl_get {i : Nat} {ci k pl a : Nat} {v : Value} (hd : decode (m_bc y) pc = .ok (.getfield i, 3)) (hf : fRes (m_oc y) i = some (ci, k, pl)) (hk : k < nfOf ci) (hv : rdF h (gtg ci k) a k = v) : WP y pc ls (.ref a :: st) w h K ↔ w.1 a = (ci, 0) ∧ WP y (pc + 3) ls (v :: st) w h K := by
  rw [WP_at hd rfl]
  have : ∀ E : EX, stq E y pc ls (.ref a :: st) w h (.getfield i) = gd (w.1 a = (ci, 0) ∧ k < nfOf ci) (E y (pc + 3) ls (v :: st) w h) := by
    intro E
    subst hv
    simp only [stq, hf]
    rfl
  simp only [this]
  rw [WQ_gd, WQ_E]
  exact ⟨fun q => ⟨q.1.1, q.2⟩, fun q => ⟨⟨q.1, hk⟩, q.2⟩⟩
theorem rl_put {i : Nat} {ci k pl a : Nat} {v : Value} {h' : HS} (hd : decode (m_bc y) pc = .ok (.putfield i, 3)) (hf : fRes (m_oc y) i = some (ci, k, pl)) (hk : k < nfOf ci) (hfin : gtg ci k < 10 ∨ (m_in y = 1 ∧ m_oc y = ci)) (hv : ∀ kk : HS → RS, (if gtg ci k % 10 = 0 then asI v fun x => kk (u2 h.1 a k x, h.2.1, h.2.2)
    else if gtg ci k % 10 = 1 then asI v fun x => gd (x = 0 ∨ x = 1) (kk (u2 h.1 a k x, h.2.1, h.2.2))
    else if gtg ci k % 10 = 2 then asL v fun x => kk (h.1, h.2.1, u2 h.2.2 a k x)
    else if gtg ci k % 10 = 3 then asR v fun x => kk (h.1, u2 h.2.1 a k (some x), h.2.2)
    else none) = kk h') : WP y pc ls (v :: .ref a :: st) w h K ↔ w.1 a = (ci, 0) ∧ WP y (pc + 3) ls st w h' K := by
  rw [WP_at hd rfl]
  have : ∀ E : EX, stq E y pc ls (v :: .ref a :: st) w h (.putfield i) = gd (gtg ci k < 10 ∨ (m_in y = 1 ∧ m_oc y = ci)) (gd (w.1 a = (ci, 0) ∧ k < nfOf ci) (E y (pc + 3) ls st w h')) := by
    intro E
    rw [← hv (fun h => E y (pc + 3) ls st w h)]
    simp only [stq, hf]
    rfl
  simp only [this]
  rw [WQ_gdt hfin, WQ_gd, WQ_E]
  exact ⟨fun q => ⟨q.1.1, q.2⟩, fun q => ⟨⟨q.1, hk⟩, q.2⟩⟩
theorem rl_putZ {i : Nat} {ci k pl a : Nat} {x : Int32} (hd : decode (m_bc y) pc = .ok (.putfield i, 3)) (hf : fRes (m_oc y) i = some (ci, k, pl)) (hk : k < nfOf ci) (hfin : gtg ci k < 10 ∨ (m_in y = 1 ∧ m_oc y = ci)) (hg : gtg ci k = 1) : WP y pc ls (.int x :: .ref a :: st) w h K ↔ w.1 a = (ci, 0) ∧ (x = 0 ∨ x = 1) ∧ WP y (pc + 3) ls st w (u2 h.1 a k x, h.2.1, h.2.2) K := by
  rw [WP_at hd rfl]
  have : ∀ E : EX, stq E y pc ls (.int x :: .ref a :: st) w h (.putfield i) = gd (gtg ci k < 10 ∨ (m_in y = 1 ∧ m_oc y = ci)) (gd (w.1 a = (ci, 0) ∧ k < nfOf ci) (gd (x = 0 ∨ x = 1) (E y (pc + 3) ls st w (u2 h.1 a k x, h.2.1, h.2.2)))) := by
    intro E
    simp only [stq, hf]
    show putI y w h ci k a (.int x) (fun h => E y (pc + 3) ls st w h) = _
    unfold putI
    rw [hg]
    rfl
  simp only [this]
  rw [WQ_gdt hfin, WQ_gd, WQ_gd, WQ_E]
  exact ⟨fun q => ⟨q.1.1, q.2⟩, fun q => ⟨⟨q.1, hk⟩, q.2⟩⟩
theorem rl_iald {a : Nat} {i : Int32} (hd : decode (m_bc y) pc = .ok (.iaload, 1)) : WP y pc ls (.int i :: .ref a :: st) w h K ↔ (w.1 a).1 = 20 ∧ vin i (w.1 a).2 ∧ WP y (pc + 1) ls (.int (h.1 a i.toNatClampNeg) :: st) w h K := by
  rw [WP_at hd rfl]
  have : ∀ E : EX, stq E y pc ls (.int i :: .ref a :: st) w h .iaload = gd ((w.1 a).1 = 20) (gdv i (w.1 a).2 (E y (pc + 1) ls (.int (h.1 a i.toNatClampNeg) :: st) w h)) := fun E => rfl
  simp only [this]
  rw [WQ_gd, WQ_gdv, WQ_E]
theorem rl_iast {a : Nat} {i x : Int32} (hd : decode (m_bc y) pc = .ok (.iastore, 1)) : WP y pc ls (.int x :: .int i :: .ref a :: st) w h K ↔ ((w.1 a).1 = 20 ∧ a ≠ 0) ∧ vin i (w.1 a).2 ∧ WP y (pc + 1) ls st w (u2 h.1 a i.toNatClampNeg x, h.2.1, h.2.2) K := by
  rw [WP_at hd rfl]
  have : ∀ E : EX, stq E y pc ls (.int x :: .int i :: .ref a :: st) w h .iastore = gd ((w.1 a).1 = 20 ∧ a ≠ 0) (gdv i (w.1 a).2 (E y (pc + 1) ls st w (u2 h.1 a i.toNatClampNeg x, h.2.1, h.2.2))) := fun E => rfl
  simp only [this]
  rw [WQ_gd, WQ_gdv, WQ_E]
theorem rl_aald {a : Nat} {i : Int32} (hd : decode (m_bc y) pc = .ok (.aaload, 1)) : WP y pc ls (.int i :: .ref a :: st) w h K ↔ ((w.1 a).1 = 21 ∨ (w.1 a).1 = 22 ∨ (w.1 a).1 = 23) ∧ vin i (w.1 a).2 ∧ WP y (pc + 1) ls (va_rf (h.2.1 a i.toNatClampNeg) :: st) w h K := by
  rw [WP_at hd rfl]
  have : ∀ E : EX, stq E y pc ls (.int i :: .ref a :: st) w h .aaload = gd ((w.1 a).1 = 21 ∨ (w.1 a).1 = 22 ∨ (w.1 a).1 = 23) (gdv i (w.1 a).2 (E y (pc + 1) ls (va_rf (h.2.1 a i.toNatClampNeg) :: st) w h)) := fun E => rfl
  simp only [this]
  rw [WQ_gd, WQ_gdv, WQ_E]
theorem rl_aast {a x : Nat} {i : Int32} (hd : decode (m_bc y) pc = .ok (.aastore, 1)) : WP y pc ls (.ref x :: .int i :: .ref a :: st) w h K ↔ (((w.1 a).1 = 21 ∨ (w.1 a).1 = 22 ∨ (w.1 a).1 = 23) ∧ w.1 x = (clOf ((w.1 a).1 - 20), 0)) ∧ vin i (w.1 a).2 ∧ WP y (pc + 1) ls st w (h.1, u2 h.2.1 a i.toNatClampNeg (some x), h.2.2) K := by
  rw [WP_at hd rfl]
  have : ∀ E : EX, stq E y pc ls (.ref x :: .int i :: .ref a :: st) w h .aastore = gd (((w.1 a).1 = 21 ∨ (w.1 a).1 = 22 ∨ (w.1 a).1 = 23) ∧ w.1 x = (clOf ((w.1 a).1 - 20), 0)) (gdv i (w.1 a).2 (E y (pc + 1) ls st w (h.1, u2 h.2.1 a i.toNatClampNeg (some x), h.2.2))) := fun E => rfl
  simp only [this]
  rw [WQ_gd, WQ_gdv, WQ_E]
theorem rl_alen {a : Nat} (hd : decode (m_bc y) pc = .ok (.arraylength, 1)) : WP y pc ls (.ref a :: st) w h K ↔ ((w.1 a).1 = 20 ∨ (w.1 a).1 = 21 ∨ (w.1 a).1 = 22 ∨ (w.1 a).1 = 23) ∧ WP y (pc + 1) ls (.int (nI (w.1 a).2) :: st) w h K :=
  rl_gd hd rfl (fun _ => rfl)
theorem rl_new {i ci : Nat} {pls : Nat × Nat × Nat} (hd : decode (m_bc y) pc = .ok (.new i, 3)) (hf : nRes (m_oc y) i = some (ci, pls)) : WP y pc ls st w h K ↔ WP y (pc + 3) ls (.ref (w.2.1 + 1) :: st) (alc w (ci, 0) (nfOf ci)) h K :=
  rl_go hd rfl (fun E => by simp only [stq, hf])
theorem rl_newa {n : Int32} (hd : decode (m_bc y) pc = .ok (.newarray .int, 2)) : WP y pc ls (.int n :: st) w h K ↔ (¬ n < 0 ∧ n.toNatClampNeg ≤ 5000) ∧ WP y (pc + 2) ls (.ref (w.2.1 + 1) :: st) (alc w (20, n.toNatClampNeg) n.toNatClampNeg) h K :=
  rl_gd hd rfl (fun _ => rfl)
theorem rl_newq {i ci : Nat} {pls : Nat × Nat × Nat} {n : Int32} (hd : decode (m_bc y) pc = .ok (.anewarray i, 3)) (hf : nRes (m_oc y) i = some (ci, pls)) : WP y pc ls (.int n :: st) w h K ↔ (¬ n < 0 ∧ n.toNatClampNeg ≤ 5000 ∧ kdOf ci ≠ 0) ∧ WP y (pc + 3) ls (.ref (w.2.1 + 1) :: st) (alc w (20 + kdOf ci, n.toNatClampNeg) n.toNatClampNeg) h K :=
  rl_gd hd rfl (fun E => by simp only [stq, hf]; rfl)
theorem rl_if {c : Jvm.ClassFile.Cond} {off : Int} {tgt : Nat} {x : Int32} (hd : decode (m_bc y) pc = .ok (.ifCond c off, 3)) (ht : (pc : Int) + off = (tgt : Int)) : WP y pc ls (.int x :: st) w h K ↔ @ite _ (cnd c x 0) (cndD c x 0) (WP y tgt ls st w h K) (WP y (pc + 3) ls st w h K) := by
  rw [WP_at hd rfl]
  have : ∀ E : EX, stq E y pc ls (.int x :: st) w h (.ifCond c off) = jmp pc off fun q => brc (cnd c x 0) (cndD c x 0) (E y q ls st w h) (E y (pc + 3) ls st w h) := fun E => rfl
  simp only [this]
  rw [WQ_jmp ht, WQ_brc]
  exact Iff.rfl
theorem rl_icmp {c : Jvm.ClassFile.Cond} {off : Int} {tgt : Nat} {x x2 : Int32} (hd : decode (m_bc y) pc = .ok (.if_icmp c off, 3)) (ht : (pc : Int) + off = (tgt : Int)) : WP y pc ls (.int x2 :: .int x :: st) w h K ↔ @ite _ (cnd c x x2) (cndD c x x2) (WP y tgt ls st w h K) (WP y (pc + 3) ls st w h K) := by
  rw [WP_at hd rfl]
  have : ∀ E : EX, stq E y pc ls (.int x2 :: .int x :: st) w h (.if_icmp c off) = jmp pc off fun q => brc (cnd c x x2) (cndD c x x2) (E y q ls st w h) (E y (pc + 3) ls st w h) := fun E => rfl
  simp only [this]
  rw [WQ_jmp ht, WQ_brc]
  exact Iff.rfl
theorem rl_goto {off : Int} {tgt : Nat} (hd : decode (m_bc y) pc = .ok (.goto off, 3)) (ht : (pc : Int) + off = (tgt : Int)) : WP y pc ls st w h K ↔ WP y tgt ls st w h K := by
  rw [WP_at hd rfl]
  have : ∀ E : EX, stq E y pc ls st w h (.goto off) = jmp pc off fun q => E y q ls st w h := fun E => rfl
  simp only [this]
  rw [WQ_jmp ht]
  exact Iff.rfl
theorem rl_tab {d lo hi : Int} {offs : Array Int} {len : Nat} {x : Int32} {off : Int} {tgt : Nat} (hd : decode (m_bc y) pc = .ok (.tableswitch d lo hi offs, len)) (hx : (x.toInt < lo ∨ hi < x.toInt) ∧ off = d ∨ ¬ (x.toInt < lo ∨ hi < x.toInt) ∧ offs[(x.toInt - lo).toNat]? = some off) (ht : (pc : Int) + off = (tgt : Int)) : WP y pc ls (.int x :: st) w h K ↔ WP y tgt ls st w h K := by
  rw [WP_at hd rfl]
  have : ∀ E : EX, stq E y pc ls (.int x :: st) w h (.tableswitch d lo hi offs) = jmp pc off fun q => E y q ls st w h := by
    intro E
    show brc (x.toInt < lo ∨ hi < x.toInt) inferInstance (jmp pc d fun q => E y q ls st w h) (match offs[(x.toInt - lo).toNat]? with | some off => jmp pc off fun q => E y q ls st w h | none => none) = _
    unfold brc
    rcases hx with ⟨h1, rfl⟩ | ⟨h1, h2⟩
    · rw [if_pos h1]
    · rw [if_neg h1, h2]
  simp only [this]
  rw [WQ_jmp ht]
  exact Iff.rfl
theorem rl_look {d : Int} {ps : Array (Int × Int)} {len : Nat} {x : Int32} {tgt : Nat} (hd : decode (m_bc y) pc = .ok (.lookupswitch d ps, len)) (hp : (ps.toList.zip (ps.toList.drop 1)).all (fun (a, next) => a.1 < next.1) = true) (ht : (pc : Int) + Op.lookupswitch.offset ps.toList d x.toInt = (tgt : Int)) : WP y pc ls (.int x :: st) w h K ↔ WP y tgt ls st w h K := by
  rw [WP_at hd rfl]
  have : ∀ E : EX, stq E y pc ls (.int x :: st) w h (.lookupswitch d ps) = gd ((ps.toList.zip (ps.toList.drop 1)).all (fun (a, next) => a.1 < next.1) = true) (jmp pc (Op.lookupswitch.offset ps.toList d x.toInt) fun q => E y q ls st w h) := fun E => rfl
  simp only [this]
  rw [WQ_gdt hp, WQ_jmp ht]
  exact Iff.rfl
theorem rl_ldc {i : Nat} {v : Int64} {pl : Nat} (hd : decode (m_bc y) pc = .ok (.ldc2_w i, 3)) (hf : kRes (m_oc y) i = some (v, pl)) : WP y pc ls st w h K ↔ WP y (pc + 3) ls (.long v :: st) w h K :=
  rl_go hd rfl (fun E => by simp only [stq, hf])
theorem rl_iret {x : Int32} (hd : decode (m_bc y) pc = .ok (.ireturn, 1)) (hr : m_rt y = some .int) : WP y pc ls [.int x] w h K ↔ K (some (.int x)) w h := by
  rw [WP_at hd rfl]
  have : ∀ E : EX, stq E y pc ls [.int x] w h .ireturn = some (some (.int x), w, h) := by
    intro E
    show @ite RS (rOK (m_rt y) x) (rOKD (m_rt y) x) (some (some (Value.int x), w, h)) none = _
    rw [if_pos (show rOK (m_rt y) x from Or.inl hr)]
  simp only [this]
  exact WQ_end
theorem rl_zret {x : Int32} (hd : decode (m_bc y) pc = .ok (.ireturn, 1)) (hr : m_rt y = some .boolean) : WP y pc ls [.int x] w h K ↔ (x = 0 ∨ x = 1) ∧ K (some (.int x)) w h := by
  rw [WP_at hd rfl]
  by_cases hx : x = 0 ∨ x = 1
  · have : ∀ E : EX, stq E y pc ls [.int x] w h .ireturn = some (some (.int x), w, h) := by
      intro E
      show @ite RS (rOK (m_rt y) x) (rOKD (m_rt y) x) (some (some (Value.int x), w, h)) none = _
      rw [if_pos (show rOK (m_rt y) x from Or.inr ⟨hr, hx⟩)]
    simp only [this]
    rw [WQ_end]
    exact ⟨fun q => ⟨hx, q⟩, fun q => q.2⟩
  · have : ∀ E : EX, stq E y pc ls [.int x] w h .ireturn = none := by
      intro E
      show @ite RS (rOK (m_rt y) x) (rOKD (m_rt y) x) (some (some (Value.int x), w, h)) none = _
      rw [if_neg]
      rintro (q | ⟨q, q2⟩)
      · rw [hr] at q; cases q
      · exact hx q2
    simp only [this]
    constructor
    · rintro ⟨n, r', w', h', h1, h2⟩; cases h1
    · rintro ⟨q, -⟩; exact absurd q hx
theorem rl_lret {x : Int64} (hd : decode (m_bc y) pc = .ok (.lreturn, 1)) (hr : m_rt y = some .long) : WP y pc ls [.long x] w h K ↔ K (some (.long x)) w h := by
  rw [WP_at hd rfl]
  have : ∀ E : EX, stq E y pc ls [.long x] w h .lreturn = gd (m_rt y = some .long) (some (some (.long x), w, h)) := fun E => rfl
  simp only [this]
  rw [WQ_gdt hr]
  exact WQ_end
theorem rl_vret (hd : decode (m_bc y) pc = .ok (.return_, 1)) (hr : m_rt y = none) : WP y pc ls [] w h K ↔ K none w h := by
  rw [WP_at hd rfl]
  have : ∀ E : EX, stq E y pc ls [] w h .return_ = gd (m_rt y = none) (some (none, w, h)) := fun E => rfl
  simp only [this]
  rw [WQ_gdt hr]
  exact WQ_end
/-- a call of a method of this class's own kind: of an object -/
theorem rl_calV {op i kd id : Nat} {pls : Nat × Nat × Nat × Nat} {z : ME} {b : Nat} {as rest st0 : List Value} {i0 : Instr} (hi : ∀ E : EX, stq E y pc ls st0 w h i0 = inv E y pc ls st0 w h op i) (hd : decode (m_bc y) pc = .ok (i0, 3)) (hl : iln i0 = 3) (hf : cRes (m_oc y) i = some (kd, id, pls)) (hk : (kd = 0 ∧ op = 0) ∨ (kd = 3 ∧ op = 1)) (hz : mtL[id]? = some z) (hst : st0 = as.reverse ++ .ref b :: rest) (hn : m_na z = as.length) (hc : (decide (rest.length ≤ 4) && decide ((expL (.ref b :: as)).length ≤ m_ml z) && decide (m_dp z + 1 ≤ m_dp y)) = true) :
    WP y pc ls st0 w h K ↔ w.1 b = (m_oc z, 0) ∧ WP z 0 (entL (m_ml z) (.ref b :: as)) [] w h (fun r w' h' => WP y (pc + 3) ls (r.toList ++ rest) w' h' K) := by
  rw [WP_at hd (by rw [hl]; rfl)]
  have : ∀ E : EX, stq E y pc ls st0 w h i0 = gd (w.1 b = (m_oc z, 0)) (cal E y z pc ls (.ref b :: as) rest w h) := by
    intro E
    rw [hi]
    have e1 : calV E y z pc ls st0 w h = gd (w.1 b = (m_oc z, 0)) (cal E y z pc ls (.ref b :: as) rest w h) := by
      unfold calV
      rw [hst, hn]
      have e2 : (as.reverse ++ Value.ref b :: rest).drop as.length = .ref b :: rest := by
        rw [← List.length_reverse, List.drop_left]
      have e3 : (as.reverse ++ Value.ref b :: rest).take as.length = as.reverse := by
        rw [← List.length_reverse, List.take_left]
      rw [e2, e3, List.reverse_reverse]
      unfold gd
      rw [if_pos (by simp)]
      rfl
    rw [← e1]
    rcases hk with ⟨rfl, rfl⟩ | ⟨rfl, rfl⟩
    · simp only [inv, hf, hz, gd, if_true]
    · simp only [inv, hf, hz, gd, if_true, Nat.reduceEqDiff, if_false]
  simp only [this]
  rw [WQ_gd, WQ_cal hc]
theorem rl_calS {i kd id : Nat} {pls : Nat × Nat × Nat × Nat} {z : ME} {as rest st0 : List Value} (hd : decode (m_bc y) pc = .ok (.invokestatic i, 3)) (hf : cRes (m_oc y) i = some (kd, id, pls)) (hk : kd = 1 ∨ kd = 2) (hz : mtL[id]? = some z) (hst : st0 = as.reverse ++ rest) (hn : m_na z = as.length) (hc : (decide (rest.length ≤ 4) && decide ((expL as).length ≤ m_ml z) && decide (m_dp z + 1 ≤ m_dp y)) = true) :
    WP y pc ls st0 w h K ↔ WP z 0 (entL (m_ml z) as) [] w h (fun r w' h' => WP y (pc + 3) ls (r.toList ++ rest) w' h' K) := by
  rw [WP_at hd rfl]
  have : ∀ E : EX, stq E y pc ls st0 w h (.invokestatic i) = cal E y z pc ls as rest w h := by
    intro E
    have e1 : calS E y z pc ls st0 w h = cal E y z pc ls as rest w h := by
      unfold calS
      rw [hst, hn]
      have e2 : (as.reverse ++ rest).drop as.length = rest := by
        rw [← List.length_reverse, List.drop_left]
      have e3 : (as.reverse ++ rest).take as.length = as.reverse := by
        rw [← List.length_reverse, List.take_left]
      rw [e2, e3, List.reverse_reverse]
      unfold gd
      rw [if_pos (by simp)]
    rw [← e1]
    show inv E y pc ls st0 w h 2 i = _
    rcases hk with rfl | rfl
    · simp only [inv, hf, hz, gd, if_true, Nat.reduceEqDiff, if_false, Nat.one_ne_zero]
    · simp only [inv, hf, hz, gd, if_true, Nat.reduceEqDiff, if_false]
  simp only [this]
  exact WQ_cal hc
theorem rl_obj {i : Nat} {pls : Nat × Nat × Nat × Nat × Nat} {a : Nat} (hd : decode (m_bc y) pc = .ok (.invokespecial i, 3)) (hf : cRes (m_oc y) i = some (4, pls)) (hc : (decide (1 ≤ m_dp y) && decide (st.length ≤ 4)) = true) : WP y pc ls (.ref a :: st) w h K ↔ WP y (pc + 3) ls st w h K := by
  simp only [Bool.and_eq_true, decide_eq_true_eq] at hc
  obtain ⟨id, pls⟩ := pls
  refine rl_go hd rfl (fun E => ?_)
  show inv E y pc ls (.ref a :: st) w h 1 i = _
  simp only [inv, hf, Nat.reduceEqDiff, if_false, if_true]
  simp only [gd, popR, pop1, asR, hc.1, hc.2, and_self, if_true]
theorem rl_max {i : Nat} {pls : Nat × Nat × Nat × Nat × Nat} {a b : Int32} (hd : decode (m_bc y) pc = .ok (.invokestatic i, 3)) (hf : cRes (m_oc y) i = some (5, pls)) (hc : (decide (1 ≤ m_dp y) && decide (st.length ≤ 4)) = true) : WP y pc ls (.int b :: .int a :: st) w h K ↔ WP y (pc + 3) ls (.int (if a < b then b else a) :: st) w h K := by
  simp only [Bool.and_eq_true, decide_eq_true_eq] at hc
  obtain ⟨id, pls⟩ := pls
  refine rl_go hd rfl (fun E => ?_)
  show inv E y pc ls (.int b :: .int a :: st) w h 2 i = _
  simp only [inv, hf, Nat.reduceEqDiff, if_false, if_true]
  simp only [gd, popI, pop1, asI, hc.1, hc.2, and_self, if_true]
theorem rl_min {i : Nat} {pls : Nat × Nat × Nat × Nat × Nat} {a b : Int32} (hd : decode (m_bc y) pc = .ok (.invokestatic i, 3)) (hf : cRes (m_oc y) i = some (6, pls)) (hc : (decide (1 ≤ m_dp y) && decide (st.length ≤ 4)) = true) : WP y pc ls (.int b :: .int a :: st) w h K ↔ WP y (pc + 3) ls (.int (if b < a then b else a) :: st) w h K := by
  simp only [Bool.and_eq_true, decide_eq_true_eq] at hc
  obtain ⟨id, pls⟩ := pls
  refine rl_go hd rfl (fun E => ?_)
  show inv E y pc ls (.int b :: .int a :: st) w h 2 i = _
  simp only [inv, hf, Nat.reduceEqDiff, if_false, if_true]
  simp only [gd, popI, pop1, asI, hc.1, hc.2, and_self, if_true]
theorem rl_copy {i : Nat} {pls : Nat × Nat × Nat × Nat × Nat} {a0 a1 : Nat} {sp dp n : Int32} (hd : decode (m_bc y) pc = .ok (.invokestatic i, 3)) (hf : cRes (m_oc y) i = some (7, pls)) (hc : (decide (1 ≤ m_dp y) && decide (st.length ≤ 4)) = true) : WP y pc ls (.int n :: .int dp :: .ref a1 :: .int sp :: .ref a0 :: st) w h K ↔ (a0 ≠ 0 ∧ a1 ≠ 0 ∧ (w.1 a0).1 = 20 ∧ (w.1 a1).1 = 20 ∧ ¬ sp < 0 ∧ ¬ dp < 0 ∧ ¬ n < 0 ∧ sp.toNatClampNeg + n.toNatClampNeg ≤ (w.1 a0).2 ∧ dp.toNatClampNeg + n.toNatClampNeg ≤ (w.1 a1).2) ∧ WP y (pc + 3) ls st w (uA h.1 a1 (va_cpy (h.1 a0) (h.1 a1) sp.toNatClampNeg dp.toNatClampNeg n.toNatClampNeg), h.2.1, h.2.2) K := by
  simp only [Bool.and_eq_true, decide_eq_true_eq] at hc
  obtain ⟨id, pls⟩ := pls
  refine rl_gd hd rfl (fun E => ?_)
  show inv E y pc ls (.int n :: .int dp :: .ref a1 :: .int sp :: .ref a0 :: st) w h 2 i = _
  simp only [inv, hf, Nat.reduceEqDiff, if_false, if_true]
  simp only [gd, popI, popR, pop1, asI, asR, hc.1, hc.2, true_and, and_self, if_true]
theorem s_load {i : Instr} {len : Nat} {pc' : Nat} {st' : List Value} (hd : decode (m_bc y) pc = .ok (i, len)) (hl : (iln i == 0 || len == iln i) = true) (hp : pc + len = pc') (he : ∀ E : EX, stq E y pc ls st w h i = E y (pc + len) ls st' w h) : WP y pc ls st w h K ↔ WP y pc' ls st' w h K := by
  subst hp
  exact rl_go hd hl he
theorem s_iload_n {k : Fin 4} {x : Int32} {pc' : Nat} (hd : decode (m_bc y) pc = .ok (.iload_n k, 1)) (hp : pc + 1 = pc') (hv : ls.getD k.val .null = .int x) : WP y pc ls st w h K ↔ WP y pc' ls (.int x :: st) w h K := by
  subst hp
  refine rl_go hd rfl (fun E => ?_)
  show asI (ls.getD k.val .null) _ = _
  rw [hv]
  rfl
theorem s_iload {k : Nat} {x : Int32} {pc' : Nat} (hd : decode (m_bc y) pc = .ok (.iload k, 2)) (hp : pc + 2 = pc') (hv : ls.getD k .null = .int x) : WP y pc ls st w h K ↔ WP y pc' ls (.int x :: st) w h K := by
  subst hp
  refine rl_go hd rfl (fun E => ?_)
  show asI (ls.getD k .null) _ = _
  rw [hv]
  rfl
theorem s_lload_n {k : Fin 4} {x : Int64} {pc' : Nat} (hd : decode (m_bc y) pc = .ok (.lload_n k, 1)) (hp : pc + 1 = pc') (hv : ls.getD k.val .null = .long x) : WP y pc ls st w h K ↔ WP y pc' ls (.long x :: st) w h K := by
  subst hp
  refine rl_go hd rfl (fun E => ?_)
  show asL (ls.getD k.val .null) _ = _
  rw [hv]
  rfl
theorem s_lload {k : Nat} {x : Int64} {pc' : Nat} (hd : decode (m_bc y) pc = .ok (.lload k, 2)) (hp : pc + 2 = pc') (hv : ls.getD k .null = .long x) : WP y pc ls st w h K ↔ WP y pc' ls (.long x :: st) w h K := by
  subst hp
  refine rl_go hd rfl (fun E => ?_)
  show asL (ls.getD k .null) _ = _
  rw [hv]
  rfl
theorem s_aload_n {k : Fin 4} {x : Nat} {pc' : Nat} (hd : decode (m_bc y) pc = .ok (.aload_n k, 1)) (hp : pc + 1 = pc') (hv : ls.getD k.val .null = .ref x) : WP y pc ls st w h K ↔ WP y pc' ls (.ref x :: st) w h K := by
  subst hp
  refine rl_go hd rfl (fun E => ?_)
  show asR (ls.getD k.val .null) _ = _
  rw [hv]
  rfl
theorem s_aload {k : Nat} {x : Nat} {pc' : Nat} (hd : decode (m_bc y) pc = .ok (.aload k, 2)) (hp : pc + 2 = pc') (hv : ls.getD k .null = .ref x) : WP y pc ls st w h K ↔ WP y pc' ls (.ref x :: st) w h K := by
  subst hp
  refine rl_go hd rfl (fun E => ?_)
  show asR (ls.getD k .null) _ = _
  rw [hv]
  rfl
theorem s_istore_n {k : Fin 4} {x : Int32} {pc' : Nat} {ls' : List Value} (hd : decode (m_bc y) pc = .ok (.istore_n k, 1)) (hp : pc + 1 = pc') (h1 : (Nat.blt k.val ls.length && (Nat.beq k.val 0 || Nat.beq (ls.getD (k.val - 1) .null).category 1)) = true) (h2 : ls.set k.val (.int x) = ls') : WP y pc ls (.int x :: st) w h K ↔ WP y pc' ls' st w h K := by
  subst hp h2
  simp only [Bool.and_eq_true, Bool.or_eq_true, Nat.blt_eq, Nat.beq_eq] at h1
  exact rl_gt h1 hd rfl (fun _ => rfl)
theorem s_istore {k : Nat} {x : Int32} {pc' : Nat} {ls' : List Value} (hd : decode (m_bc y) pc = .ok (.istore k, 2)) (hp : pc + 2 = pc') (h1 : (Nat.blt k ls.length && (Nat.beq k 0 || Nat.beq (ls.getD (k - 1) .null).category 1)) = true) (h2 : ls.set k (.int x) = ls') : WP y pc ls (.int x :: st) w h K ↔ WP y pc' ls' st w h K := by
  subst hp h2
  simp only [Bool.and_eq_true, Bool.or_eq_true, Nat.blt_eq, Nat.beq_eq] at h1
  exact rl_gt h1 hd rfl (fun _ => rfl)
theorem s_astore_n {k : Fin 4} {x : Nat} {pc' : Nat} {ls' : List Value} (hd : decode (m_bc y) pc = .ok (.astore_n k, 1)) (hp : pc + 1 = pc') (h1 : (Nat.blt k.val ls.length && (Nat.beq k.val 0 || Nat.beq (ls.getD (k.val - 1) .null).category 1)) = true) (h2 : ls.set k.val (.ref x) = ls') : WP y pc ls (.ref x :: st) w h K ↔ WP y pc' ls' st w h K := by
  subst hp h2
  simp only [Bool.and_eq_true, Bool.or_eq_true, Nat.blt_eq, Nat.beq_eq] at h1
  exact rl_gt h1 hd rfl (fun _ => rfl)
theorem s_astore {k : Nat} {x : Nat} {pc' : Nat} {ls' : List Value} (hd : decode (m_bc y) pc = .ok (.astore k, 2)) (hp : pc + 2 = pc') (h1 : (Nat.blt k ls.length && (Nat.beq k 0 || Nat.beq (ls.getD (k - 1) .null).category 1)) = true) (h2 : ls.set k (.ref x) = ls') : WP y pc ls (.ref x :: st) w h K ↔ WP y pc' ls' st w h K := by
  subst hp h2
  simp only [Bool.and_eq_true, Bool.or_eq_true, Nat.blt_eq, Nat.beq_eq] at h1
  exact rl_gt h1 hd rfl (fun _ => rfl)
theorem s_lstore_n {k : Fin 4} {x : Int64} {pc' : Nat} {ls' : List Value} (hd : decode (m_bc y) pc = .ok (.lstore_n k, 1)) (hp : pc + 1 = pc') (h1 : (Nat.blt (k.val + 1) ls.length && (Nat.beq k.val 0 || Nat.beq (ls.getD (k.val - 1) .null).category 1)) = true) (h2 : (ls.set k.val (.long x)).set (k.val + 1) .null = ls') : WP y pc ls (.long x :: st) w h K ↔ WP y pc' ls' st w h K := by
  subst hp h2
  simp only [Bool.and_eq_true, Bool.or_eq_true, Nat.blt_eq, Nat.beq_eq] at h1
  exact rl_gt h1 hd rfl (fun _ => rfl)
theorem s_lstore {k : Nat} {x : Int64} {pc' : Nat} {ls' : List Value} (hd : decode (m_bc y) pc = .ok (.lstore k, 2)) (hp : pc + 2 = pc') (h1 : (Nat.blt (k + 1) ls.length && (Nat.beq k 0 || Nat.beq (ls.getD (k - 1) .null).category 1)) = true) (h2 : (ls.set k (.long x)).set (k + 1) .null = ls') : WP y pc ls (.long x :: st) w h K ↔ WP y pc' ls' st w h K := by
  subst hp h2
  simp only [Bool.and_eq_true, Bool.or_eq_true, Nat.blt_eq, Nat.beq_eq] at h1
  exact rl_gt h1 hd rfl (fun _ => rfl)
theorem s_iinc {k : Nat} {c : Int} {x v : Int32} {pc' : Nat} {ls' : List Value} (hd : decode (m_bc y) pc = .ok (.iinc k c, 3)) (hp : pc + 3 = pc') (hv : ls.getD k .null = .int x) (hc : Int32.ofInt c = v) (h1 : (Nat.blt k ls.length && (Nat.beq k 0 || Nat.beq (ls.getD (k - 1) .null).category 1)) = true) (h2 : ls.set k (.int (x + v)) = ls') : WP y pc ls st w h K ↔ WP y pc' ls' st w h K := by
  subst hp h2 hc
  simp only [Bool.and_eq_true, Bool.or_eq_true, Nat.blt_eq, Nat.beq_eq] at h1
  refine rl_gt h1 hd rfl (fun E => ?_)
  show asI (ls.getD k .null) _ = _
  rw [hv]
  rfl
theorem s_iconst {c : Int} {v : Int32} {pc' : Nat} (hd : decode (m_bc y) pc = .ok (.iconst c, 1)) (hp : pc + 1 = pc') (hv : Int32.ofInt c = v) : WP y pc ls st w h K ↔ WP y pc' ls (.int v :: st) w h K := by
  subst hp hv; exact rl_go hd rfl (fun _ => rfl)
theorem s_bipush {c : Int} {v : Int32} {pc' : Nat} (hd : decode (m_bc y) pc = .ok (.bipush c, 2)) (hp : pc + 2 = pc') (hv : (Int8.ofInt c).toInt32 = v) : WP y pc ls st w h K ↔ WP y pc' ls (.int v :: st) w h K := by
  subst hp hv; exact rl_go hd rfl (fun _ => rfl)
theorem s_sipush {c : Int} {v : Int32} {pc' : Nat} (hd : decode (m_bc y) pc = .ok (.sipush c, 3)) (hp : pc + 3 = pc') (hv : (Int16.ofInt c).toInt32 = v) : WP y pc ls st w h K ↔ WP y pc' ls (.int v :: st) w h K := by
  subst hp hv; exact rl_go hd rfl (fun _ => rfl)
theorem s_ldc2_w {i : Nat} {v : Int64} {pl pc' : Nat} (hd : decode (m_bc y) pc = .ok (.ldc2_w i, 3)) (hp : pc + 3 = pc') (hf : kRes (m_oc y) i = some (v, pl)) : WP y pc ls st w h K ↔ WP y pc' ls (.long v :: st) w h K := by
  subst hp; exact rl_ldc hd hf
theorem s_iadd {xa xb : Int32} {pc' : Nat} (hd : decode (m_bc y) pc = .ok (.iadd, 1)) (hp : pc + 1 = pc') : WP y pc ls (.int xb :: .int xa :: st) w h K ↔ WP y pc' ls (.int (xa + xb) :: st) w h K := by
  subst hp; exact rl_go hd rfl (fun _ => rfl)
theorem s_isub {xa xb : Int32} {pc' : Nat} (hd : decode (m_bc y) pc = .ok (.isub, 1)) (hp : pc + 1 = pc') : WP y pc ls (.int xb :: .int xa :: st) w h K ↔ WP y pc' ls (.int (xa - xb) :: st) w h K := by
  subst hp; exact rl_go hd rfl (fun _ => rfl)
theorem s_imul {xa xb : Int32} {pc' : Nat} (hd : decode (m_bc y) pc = .ok (.imul, 1)) (hp : pc + 1 = pc') : WP y pc ls (.int xb :: .int xa :: st) w h K ↔ WP y pc' ls (.int (xa * xb) :: st) w h K := by
  subst hp; exact rl_go hd rfl (fun _ => rfl)
theorem s_iand {xa xb : Int32} {pc' : Nat} (hd : decode (m_bc y) pc = .ok (.iand, 1)) (hp : pc + 1 = pc') : WP y pc ls (.int xb :: .int xa :: st) w h K ↔ WP y pc' ls (.int (xa &&& xb) :: st) w h K := by
  subst hp; exact rl_go hd rfl (fun _ => rfl)
theorem s_ior {xa xb : Int32} {pc' : Nat} (hd : decode (m_bc y) pc = .ok (.ior, 1)) (hp : pc + 1 = pc') : WP y pc ls (.int xb :: .int xa :: st) w h K ↔ WP y pc' ls (.int (xa ||| xb) :: st) w h K := by
  subst hp; exact rl_go hd rfl (fun _ => rfl)
theorem s_ishl {xa xb : Int32} {pc' : Nat} (hd : decode (m_bc y) pc = .ok (.ishl, 1)) (hp : pc + 1 = pc') : WP y pc ls (.int xb :: .int xa :: st) w h K ↔ WP y pc' ls (.int (xa <<< (xb &&& 31)) :: st) w h K := by
  subst hp; exact rl_go hd rfl (fun _ => rfl)
theorem s_ishr {xa xb : Int32} {pc' : Nat} (hd : decode (m_bc y) pc = .ok (.ishr, 1)) (hp : pc + 1 = pc') : WP y pc ls (.int xb :: .int xa :: st) w h K ↔ WP y pc' ls (.int (xa >>> (xb &&& 31)) :: st) w h K := by
  subst hp; exact rl_go hd rfl (fun _ => rfl)
theorem s_ladd {ja jb : Int64} {pc' : Nat} (hd : decode (m_bc y) pc = .ok (.ladd, 1)) (hp : pc + 1 = pc') : WP y pc ls (.long jb :: .long ja :: st) w h K ↔ WP y pc' ls (.long (ja + jb) :: st) w h K := by
  subst hp; exact rl_go hd rfl (fun _ => rfl)
theorem s_lmul {ja jb : Int64} {pc' : Nat} (hd : decode (m_bc y) pc = .ok (.lmul, 1)) (hp : pc + 1 = pc') : WP y pc ls (.long jb :: .long ja :: st) w h K ↔ WP y pc' ls (.long (ja * jb) :: st) w h K := by
  subst hp; exact rl_go hd rfl (fun _ => rfl)
theorem s_lcmp {ja jb : Int64} {pc' : Nat} (hd : decode (m_bc y) pc = .ok (.lcmp, 1)) (hp : pc + 1 = pc') : WP y pc ls (.long jb :: .long ja :: st) w h K ↔ WP y pc' ls (.int (lg_cmp ja jb) :: st) w h K := by
  subst hp; exact rl_go hd rfl (fun _ => rfl)
theorem s_i2l {x : Int32} {pc' : Nat} (hd : decode (m_bc y) pc = .ok (.i2l, 1)) (hp : pc + 1 = pc') : WP y pc ls (.int x :: st) w h K ↔ WP y pc' ls (.long x.toInt64 :: st) w h K := by
  subst hp; exact rl_go hd rfl (fun _ => rfl)
theorem s_dupI {x : Int32} {pc' : Nat} (hd : decode (m_bc y) pc = .ok (.dup, 1)) (hp : pc + 1 = pc') : WP y pc ls (.int x :: st) w h K ↔ WP y pc' ls (.int x :: .int x :: st) w h K := by
  subst hp; exact rl_gt (c := (Value.int x).category = 1) rfl hd rfl (fun _ => rfl)
theorem s_dupR {x : Nat} {pc' : Nat} (hd : decode (m_bc y) pc = .ok (.dup, 1)) (hp : pc + 1 = pc') : WP y pc ls (.ref x :: st) w h K ↔ WP y pc' ls (.ref x :: .ref x :: st) w h K := by
  subst hp; exact rl_gt (c := (Value.ref x).category = 1) rfl hd rfl (fun _ => rfl)
theorem s_dup2 {x : Int32} {a : Nat} {pc' : Nat} (hd : decode (m_bc y) pc = .ok (.dup2, 1)) (hp : pc + 1 = pc') : WP y pc ls (.int x :: .ref a :: st) w h K ↔ WP y pc' ls (.int x :: .ref a :: .int x :: .ref a :: st) w h K := by
  subst hp; exact rl_gt (c := (Value.int x).category = 1 ∧ (Value.ref a).category = 1) ⟨rfl, rfl⟩ hd rfl (fun _ => rfl)
theorem s_popI {x : Int32} {pc' : Nat} (hd : decode (m_bc y) pc = .ok (.pop, 1)) (hp : pc + 1 = pc') : WP y pc ls (.int x :: st) w h K ↔ WP y pc' ls st w h K := by
  subst hp; exact rl_gt (c := (Value.int x).category = 1) rfl hd rfl (fun _ => rfl)
theorem s_if_eq {off : Int} {tgt pc' : Nat} {x : Int32} (hd : decode (m_bc y) pc = .ok (.ifCond .eq off, 3)) (hp : pc + 3 = pc') (ht : (pc : Int) + off = (tgt : Int)) : WP y pc ls (.int x :: st) w h K ↔ if x = 0 then WP y tgt ls st w h K else WP y pc' ls st w h K := by
  subst hp
  rw [rl_if hd ht]
  by_cases q : x = 0
  · rw [if_pos (show cnd .eq x 0 from q), if_pos q]
  · rw [if_neg (show ¬ cnd .eq x 0 from q), if_neg q]
theorem s_icmp_eq {off : Int} {tgt pc' : Nat} {xa xb : Int32} (hd : decode (m_bc y) pc = .ok (.if_icmp .eq off, 3)) (hp : pc + 3 = pc') (ht : (pc : Int) + off = (tgt : Int)) : WP y pc ls (.int xb :: .int xa :: st) w h K ↔ if xa = xb then WP y tgt ls st w h K else WP y pc' ls st w h K := by
  subst hp
  rw [rl_icmp hd ht]
  by_cases q : xa = xb
  · rw [if_pos (show cnd .eq xa xb from q), if_pos q]
  · rw [if_neg (show ¬ cnd .eq xa xb from q), if_neg q]
theorem s_if_ne {off : Int} {tgt pc' : Nat} {x : Int32} (hd : decode (m_bc y) pc = .ok (.ifCond .ne off, 3)) (hp : pc + 3 = pc') (ht : (pc : Int) + off = (tgt : Int)) : WP y pc ls (.int x :: st) w h K ↔ if ¬ x = 0 then WP y tgt ls st w h K else WP y pc' ls st w h K := by
  subst hp
  rw [rl_if hd ht]
  by_cases q : ¬ x = 0
  · rw [if_pos (show cnd .ne x 0 from q), if_pos q]
  · rw [if_neg (show ¬ cnd .ne x 0 from q), if_neg q]
theorem s_icmp_ne {off : Int} {tgt pc' : Nat} {xa xb : Int32} (hd : decode (m_bc y) pc = .ok (.if_icmp .ne off, 3)) (hp : pc + 3 = pc') (ht : (pc : Int) + off = (tgt : Int)) : WP y pc ls (.int xb :: .int xa :: st) w h K ↔ if ¬ xa = xb then WP y tgt ls st w h K else WP y pc' ls st w h K := by
  subst hp
  rw [rl_icmp hd ht]
  by_cases q : ¬ xa = xb
  · rw [if_pos (show cnd .ne xa xb from q), if_pos q]
  · rw [if_neg (show ¬ cnd .ne xa xb from q), if_neg q]
theorem s_if_lt {off : Int} {tgt pc' : Nat} {x : Int32} (hd : decode (m_bc y) pc = .ok (.ifCond .lt off, 3)) (hp : pc + 3 = pc') (ht : (pc : Int) + off = (tgt : Int)) : WP y pc ls (.int x :: st) w h K ↔ if x < 0 then WP y tgt ls st w h K else WP y pc' ls st w h K := by
  subst hp
  rw [rl_if hd ht]
  by_cases q : x < 0
  · rw [if_pos (show cnd .lt x 0 from q), if_pos q]
  · rw [if_neg (show ¬ cnd .lt x 0 from q), if_neg q]
theorem s_icmp_lt {off : Int} {tgt pc' : Nat} {xa xb : Int32} (hd : decode (m_bc y) pc = .ok (.if_icmp .lt off, 3)) (hp : pc + 3 = pc') (ht : (pc : Int) + off = (tgt : Int)) : WP y pc ls (.int xb :: .int xa :: st) w h K ↔ if xa < xb then WP y tgt ls st w h K else WP y pc' ls st w h K := by
  subst hp
  rw [rl_icmp hd ht]
  by_cases q : xa < xb
  · rw [if_pos (show cnd .lt xa xb from q), if_pos q]
  · rw [if_neg (show ¬ cnd .lt xa xb from q), if_neg q]
theorem s_if_ge {off : Int} {tgt pc' : Nat} {x : Int32} (hd : decode (m_bc y) pc = .ok (.ifCond .ge off, 3)) (hp : pc + 3 = pc') (ht : (pc : Int) + off = (tgt : Int)) : WP y pc ls (.int x :: st) w h K ↔ if 0 ≤ x then WP y tgt ls st w h K else WP y pc' ls st w h K := by
  subst hp
  rw [rl_if hd ht]
  by_cases q : 0 ≤ x
  · rw [if_pos (show cnd .ge x 0 from q), if_pos q]
  · rw [if_neg (show ¬ cnd .ge x 0 from q), if_neg q]
theorem s_icmp_ge {off : Int} {tgt pc' : Nat} {xa xb : Int32} (hd : decode (m_bc y) pc = .ok (.if_icmp .ge off, 3)) (hp : pc + 3 = pc') (ht : (pc : Int) + off = (tgt : Int)) : WP y pc ls (.int xb :: .int xa :: st) w h K ↔ if xb ≤ xa then WP y tgt ls st w h K else WP y pc' ls st w h K := by
  subst hp
  rw [rl_icmp hd ht]
  by_cases q : xb ≤ xa
  · rw [if_pos (show cnd .ge xa xb from q), if_pos q]
  · rw [if_neg (show ¬ cnd .ge xa xb from q), if_neg q]
theorem s_if_gt {off : Int} {tgt pc' : Nat} {x : Int32} (hd : decode (m_bc y) pc = .ok (.ifCond .gt off, 3)) (hp : pc + 3 = pc') (ht : (pc : Int) + off = (tgt : Int)) : WP y pc ls (.int x :: st) w h K ↔ if 0 < x then WP y tgt ls st w h K else WP y pc' ls st w h K := by
  subst hp
  rw [rl_if hd ht]
  by_cases q : 0 < x
  · rw [if_pos (show cnd .gt x 0 from q), if_pos q]
  · rw [if_neg (show ¬ cnd .gt x 0 from q), if_neg q]
theorem s_icmp_gt {off : Int} {tgt pc' : Nat} {xa xb : Int32} (hd : decode (m_bc y) pc = .ok (.if_icmp .gt off, 3)) (hp : pc + 3 = pc') (ht : (pc : Int) + off = (tgt : Int)) : WP y pc ls (.int xb :: .int xa :: st) w h K ↔ if xb < xa then WP y tgt ls st w h K else WP y pc' ls st w h K := by
  subst hp
  rw [rl_icmp hd ht]
  by_cases q : xb < xa
  · rw [if_pos (show cnd .gt xa xb from q), if_pos q]
  · rw [if_neg (show ¬ cnd .gt xa xb from q), if_neg q]
theorem s_if_le {off : Int} {tgt pc' : Nat} {x : Int32} (hd : decode (m_bc y) pc = .ok (.ifCond .le off, 3)) (hp : pc + 3 = pc') (ht : (pc : Int) + off = (tgt : Int)) : WP y pc ls (.int x :: st) w h K ↔ if x ≤ 0 then WP y tgt ls st w h K else WP y pc' ls st w h K := by
  subst hp
  rw [rl_if hd ht]
  by_cases q : x ≤ 0
  · rw [if_pos (show cnd .le x 0 from q), if_pos q]
  · rw [if_neg (show ¬ cnd .le x 0 from q), if_neg q]
theorem s_icmp_le {off : Int} {tgt pc' : Nat} {xa xb : Int32} (hd : decode (m_bc y) pc = .ok (.if_icmp .le off, 3)) (hp : pc + 3 = pc') (ht : (pc : Int) + off = (tgt : Int)) : WP y pc ls (.int xb :: .int xa :: st) w h K ↔ if xa ≤ xb then WP y tgt ls st w h K else WP y pc' ls st w h K := by
  subst hp
  rw [rl_icmp hd ht]
  by_cases q : xa ≤ xb
  · rw [if_pos (show cnd .le xa xb from q), if_pos q]
  · rw [if_neg (show ¬ cnd .le xa xb from q), if_neg q]
theorem s_getI {i ci k pl a g pc' : Nat} (hd : decode (m_bc y) pc = .ok (.getfield i, 3)) (hp : pc + 3 = pc') (hf : fRes (m_oc y) i = some (ci, k, pl)) (hk : Nat.blt k (nfOf ci) = true) (hg : gtg ci k = g) (hm : g % 10 = 0) : WP y pc ls (.ref a :: st) w h K ↔ w.1 a = (ci, 0) ∧ WP y pc' ls (.int (h.1 a k) :: st) w h K := by
  subst hp hg
  exact rl_get hd hf (by simpa using hk) (by simp [rdF, hm])
theorem s_getZ {i ci k pl a g pc' : Nat} (hd : decode (m_bc y) pc = .ok (.getfield i, 3)) (hp : pc + 3 = pc') (hf : fRes (m_oc y) i = some (ci, k, pl)) (hk : Nat.blt k (nfOf ci) = true) (hg : gtg ci k = g) (hm : g % 10 = 1) : WP y pc ls (.ref a :: st) w h K ↔ w.1 a = (ci, 0) ∧ WP y pc' ls (.int (h.1 a k) :: st) w h K := by
  subst hp hg
  exact rl_get hd hf (by simpa using hk) (by simp [rdF, hm])
theorem s_getJ {i ci k pl a g pc' : Nat} (hd : decode (m_bc y) pc = .ok (.getfield i, 3)) (hp : pc + 3 = pc') (hf : fRes (m_oc y) i = some (ci, k, pl)) (hk : Nat.blt k (nfOf ci) = true) (hg : gtg ci k = g) (hm : g % 10 = 2) : WP y pc ls (.ref a :: st) w h K ↔ w.1 a = (ci, 0) ∧ WP y pc' ls (.long (h.2.2 a k) :: st) w h K := by
  subst hp hg
  exact rl_get hd hf (by simpa using hk) (by simp [rdF, hm])
theorem s_getR {i ci k pl a g pc' : Nat} (hd : decode (m_bc y) pc = .ok (.getfield i, 3)) (hp : pc + 3 = pc') (hf : fRes (m_oc y) i = some (ci, k, pl)) (hk : Nat.blt k (nfOf ci) = true) (hg : gtg ci k = g) (hm : g % 10 = 3) : WP y pc ls (.ref a :: st) w h K ↔ w.1 a = (ci, 0) ∧ WP y pc' ls (va_rf (h.2.1 a k) :: st) w h K := by
  subst hp hg
  exact rl_get hd hf (by simpa using hk) (by simp [rdF, hm])
theorem s_putI {i ci k pl a g pc' : Nat} {x : Int32} (hd : decode (m_bc y) pc = .ok (.putfield i, 3)) (hp : pc + 3 = pc') (hf : fRes (m_oc y) i = some (ci, k, pl)) (hk : Nat.blt k (nfOf ci) = true) (hg : gtg ci k = g) (hm : g % 10 = 0) (hq : (Nat.blt g 10 || (Nat.beq (m_in y) 1 && Nat.beq (m_oc y) ci)) = true) : WP y pc ls (.int x :: .ref a :: st) w h K ↔ w.1 a = (ci, 0) ∧ WP y pc' ls st w (u2 h.1 a k x, h.2.1, h.2.2) K := by
  subst hp hg
  simp only [Bool.and_eq_true, Bool.or_eq_true, Nat.blt_eq, Nat.beq_eq] at hq hk
  refine rl_put hd hf hk hq (fun kk => ?_)
  simp [hm, asI, asL, asR]
theorem s_putJ {i ci k pl a g pc' : Nat} {x : Int64} (hd : decode (m_bc y) pc = .ok (.putfield i, 3)) (hp : pc + 3 = pc') (hf : fRes (m_oc y) i = some (ci, k, pl)) (hk : Nat.blt k (nfOf ci) = true) (hg : gtg ci k = g) (hm : g % 10 = 2) (hq : (Nat.blt g 10 || (Nat.beq (m_in y) 1 && Nat.beq (m_oc y) ci)) = true) : WP y pc ls (.long x :: .ref a :: st) w h K ↔ w.1 a = (ci, 0) ∧ WP y pc' ls st w (h.1, h.2.1, u2 h.2.2 a k x) K := by
  subst hp hg
  simp only [Bool.and_eq_true, Bool.or_eq_true, Nat.blt_eq, Nat.beq_eq] at hq hk
  refine rl_put hd hf hk hq (fun kk => ?_)
  simp [hm, asI, asL, asR]
theorem s_putR {i ci k pl a g pc' : Nat} {x : Nat} (hd : decode (m_bc y) pc = .ok (.putfield i, 3)) (hp : pc + 3 = pc') (hf : fRes (m_oc y) i = some (ci, k, pl)) (hk : Nat.blt k (nfOf ci) = true) (hg : gtg ci k = g) (hm : g % 10 = 3) (hq : (Nat.blt g 10 || (Nat.beq (m_in y) 1 && Nat.beq (m_oc y) ci)) = true) : WP y pc ls (.ref x :: .ref a :: st) w h K ↔ w.1 a = (ci, 0) ∧ WP y pc' ls st w (h.1, u2 h.2.1 a k (some x), h.2.2) K := by
  subst hp hg
  simp only [Bool.and_eq_true, Bool.or_eq_true, Nat.blt_eq, Nat.beq_eq] at hq hk
  refine rl_put hd hf hk hq (fun kk => ?_)
  simp [hm, asI, asL, asR]
theorem s_putZ {i ci k pl a pc' : Nat} {x : Int32} (hd : decode (m_bc y) pc = .ok (.putfield i, 3)) (hp : pc + 3 = pc') (hf : fRes (m_oc y) i = some (ci, k, pl)) (hk : Nat.blt k (nfOf ci) = true) (hg : gtg ci k = 1) : WP y pc ls (.int x :: .ref a :: st) w h K ↔ w.1 a = (ci, 0) ∧ (x = 0 ∨ x = 1) ∧ WP y pc' ls st w (u2 h.1 a k x, h.2.1, h.2.2) K := by
  subst hp
  exact rl_putZ hd hf (by simpa using hk) (Or.inl (by rw [hg]; decide)) hg
theorem s_calV {i id oc pc' : Nat} {pls : Nat × Nat × Nat × Nat} {b : Nat} {st0 ls0 : List Value} (z : ME) (as rest : List Value) (hd : decode (m_bc y) pc = .ok (.invokevirtual i, 3)) (hp : pc + 3 = pc') (hf : cRes (m_oc y) i = some (0, id, pls)) (hz : mtL[id]? = some z) (hst : as.reverse ++ .ref b :: rest = st0) (hn : m_na z = as.length) (hc : (Nat.ble rest.length 4 && Nat.ble (expL (.ref b :: as)).length (m_ml z) && Nat.ble (m_dp z + 1) (m_dp y)) = true) (he : entL (m_ml z) (.ref b :: as) = ls0) (ho : m_oc z = oc) :
    WP y pc ls st0 w h K ↔ w.1 b = (oc, 0) ∧ WP z 0 ls0 [] w h (fun r w h => WP y pc' ls (r.toList ++ rest) w h K) := by
  subst hp he ho hst
  simp only [Bool.and_eq_true, Nat.ble_eq] at hc
  exact rl_calV (fun _ => rfl) hd rfl hf (Or.inl ⟨rfl, rfl⟩) hz rfl hn (by simp [hc])
theorem s_calI {i id oc pc' : Nat} {pls : Nat × Nat × Nat × Nat} {b : Nat} {st0 ls0 : List Value} (z : ME) (as rest : List Value) (hd : decode (m_bc y) pc = .ok (.invokespecial i, 3)) (hp : pc + 3 = pc') (hf : cRes (m_oc y) i = some (3, id, pls)) (hz : mtL[id]? = some z) (hst : as.reverse ++ .ref b :: rest = st0) (hn : m_na z = as.length) (hc : (Nat.ble rest.length 4 && Nat.ble (expL (.ref b :: as)).length (m_ml z) && Nat.ble (m_dp z + 1) (m_dp y)) = true) (he : entL (m_ml z) (.ref b :: as) = ls0) (ho : m_oc z = oc) :
    WP y pc ls st0 w h K ↔ w.1 b = (oc, 0) ∧ WP z 0 ls0 [] w h (fun r w h => WP y pc' ls (r.toList ++ rest) w h K) := by
  subst hp he ho hst
  simp only [Bool.and_eq_true, Nat.ble_eq] at hc
  exact rl_calV (fun _ => rfl) hd rfl hf (Or.inr ⟨rfl, rfl⟩) hz rfl hn (by simp [hc])
theorem s_calS {i kd id pc' : Nat} {pls : Nat × Nat × Nat × Nat} {st0 ls0 : List Value} (z : ME) (as rest : List Value) (hd : decode (m_bc y) pc = .ok (.invokestatic i, 3)) (hp : pc + 3 = pc') (hf : cRes (m_oc y) i = some (kd, id, pls)) (hk : (Nat.beq kd 1 || Nat.beq kd 2) = true) (hz : mtL[id]? = some z) (hst : as.reverse ++ rest = st0) (hn : m_na z = as.length) (hc : (Nat.ble rest.length 4 && Nat.ble (expL as).length (m_ml z) && Nat.ble (m_dp z + 1) (m_dp y)) = true) (he : entL (m_ml z) as = ls0) :
    WP y pc ls st0 w h K ↔ WP z 0 ls0 [] w h (fun r w h => WP y pc' ls (r.toList ++ rest) w h K) := by
  subst hp he hst
  simp only [Bool.and_eq_true, Nat.ble_eq, Bool.or_eq_true, Nat.beq_eq] at hc hk
  exact rl_calS hd hf hk hz rfl hn (by simp [hc])
end WPR
