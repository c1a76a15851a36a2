/-! ===== more fuel, the same answer; cells are only added ===== -/
theorem gd_some {c : Prop} [Decidable c] {r : RS} {o : Option Value × WS × HS} : gd c r = some o ↔ c ∧ r = some o := by
  unfold gd; split <;> simp_all
theorem gdv_some {i : Int32} {n : Nat} {r : RS} {o : Option Value × WS × HS} : gdv i n r = some o ↔ vin i n ∧ r = some o := by
  unfold gdv; split <;> simp_all
theorem jmp_some {pc : Nat} {off : Int} {k : Nat → RS} {o : Option Value × WS × HS} : jmp pc off k = some o ↔ ∃ q : Nat, (pc : Int) + off = (q : Int) ∧ k q = some o := by
  unfold jmp; rw [gd_some]
  constructor
  · rintro ⟨h1, h2⟩; exact ⟨_, by omega, h2⟩
  · rintro ⟨q, h1, h2⟩; exact ⟨by omega, by rw [h1]; simpa using h2⟩
theorem asI_some {v : Value} {k : Int32 → RS} {o : Option Value × WS × HS} : asI v k = some o ↔ ∃ x, v = .int x ∧ k x = some o := by
  unfold asI; split <;> simp_all
theorem asL_some {v : Value} {k : Int64 → RS} {o : Option Value × WS × HS} : asL v k = some o ↔ ∃ x, v = .long x ∧ k x = some o := by
  unfold asL; split <;> simp_all
theorem asR_some {v : Value} {k : Nat → RS} {o : Option Value × WS × HS} : asR v k = some o ↔ ∃ x, v = .ref x ∧ k x = some o := by
  unfold asR; split <;> simp_all
theorem pop1_some {st : List Value} {k : Value → List Value → RS} {o : Option Value × WS × HS} : pop1 st k = some o ↔ ∃ v t, st = v :: t ∧ k v t = some o := by
  unfold pop1; split <;> simp_all
theorem popI_some {st : List Value} {k : Int32 → List Value → RS} {o : Option Value × WS × HS} : popI st k = some o ↔ ∃ x t, st = .int x :: t ∧ k x t = some o := by
  simp only [popI, pop1_some, asI_some]
  constructor
  · rintro ⟨v, t, rfl, x, rfl, h⟩; exact ⟨x, t, rfl, h⟩
  · rintro ⟨x, t, rfl, h⟩; exact ⟨_, t, rfl, x, rfl, h⟩
theorem popL_some {st : List Value} {k : Int64 → List Value → RS} {o : Option Value × WS × HS} : popL st k = some o ↔ ∃ x t, st = .long x :: t ∧ k x t = some o := by
  simp only [popL, pop1_some, asL_some]
  constructor
  · rintro ⟨v, t, rfl, x, rfl, h⟩; exact ⟨x, t, rfl, h⟩
  · rintro ⟨x, t, rfl, h⟩; exact ⟨_, t, rfl, x, rfl, h⟩
theorem popR_some {st : List Value} {k : Nat → List Value → RS} {o : Option Value × WS × HS} : popR st k = some o ↔ ∃ x t, st = .ref x :: t ∧ k x t = some o := by
  simp only [popR, pop1_some, asR_some]
  constructor
  · rintro ⟨v, t, rfl, x, rfl, h⟩; exact ⟨x, t, rfl, h⟩
  · rintro ⟨x, t, rfl, h⟩; exact ⟨_, t, rfl, x, rfl, h⟩
theorem stI_some {ls : List Value} {i : Nat} {v : Value} {k : List Value → RS} {o : Option Value × WS × HS} : stI ls i v k = some o ↔ (i < ls.length ∧ (i = 0 ∨ (ls.getD (i - 1) .null).category = 1)) ∧ k (ls.set i v) = some o := by
  unfold stI; rw [gd_some]
theorem stL_some {ls : List Value} {i : Nat} {v : Value} {k : List Value → RS} {o : Option Value × WS × HS} : stL ls i v k = some o ↔ (i + 1 < ls.length ∧ (i = 0 ∨ (ls.getD (i - 1) .null).category = 1)) ∧ k ((ls.set i v).set (i + 1) .null) = some o := by
  unfold stL; rw [gd_some]
theorem brc_some {c : Prop} {d : Decidable c} {a b : RS} {o : Option Value × WS × HS} : brc c d a b = some o ↔ (c → a = some o) ∧ (¬ c → b = some o) := by
  unfold brc; split <;> simp_all
theorem rok_some {t : Option FieldType} {x : Int32} {a b : RS} {o : Option Value × WS × HS} : @ite RS (rOK t x) (rOKD t x) a b = some o ↔ (rOK t x → a = some o) ∧ (¬ rOK t x → b = some o) := by
  split <;> simp_all
def rle (r r' : RS) : Prop := ∀ o, r = some o → r' = some o
theorem rle_rf {r : RS} : rle r r := fun _ h => h
theorem rle_gd {c : Prop} [Decidable c] {r r' : RS} (h : rle r r') : rle (gd c r) (gd c r') := fun o hh => gd_some.mpr ⟨(gd_some.mp hh).1, h o (gd_some.mp hh).2⟩
theorem rle_gdv {i : Int32} {n : Nat} {r r' : RS} (h : rle r r') : rle (gdv i n r) (gdv i n r') := fun o hh => gdv_some.mpr ⟨(gdv_some.mp hh).1, h o (gdv_some.mp hh).2⟩
theorem rle_jmp {pc : Nat} {off : Int} {k k' : Nat → RS} (h : ∀ q, rle (k q) (k' q)) : rle (jmp pc off k) (jmp pc off k') := fun o hh => by
  obtain ⟨q, e, h2⟩ := jmp_some.mp hh
  exact jmp_some.mpr ⟨q, e, h q o h2⟩
theorem rle_asI {v : Value} {k k' : Int32 → RS} (h : ∀ q, rle (k q) (k' q)) : rle (asI v k) (asI v k') := fun o hh => by
  obtain ⟨q, e, h2⟩ := asI_some.mp hh
  exact asI_some.mpr ⟨q, e, h q o h2⟩
theorem rle_asL {v : Value} {k k' : Int64 → RS} (h : ∀ q, rle (k q) (k' q)) : rle (asL v k) (asL v k') := fun o hh => by
  obtain ⟨q, e, h2⟩ := asL_some.mp hh
  exact asL_some.mpr ⟨q, e, h q o h2⟩
theorem rle_asR {v : Value} {k k' : Nat → RS} (h : ∀ q, rle (k q) (k' q)) : rle (asR v k) (asR v k') := fun o hh => by
  obtain ⟨q, e, h2⟩ := asR_some.mp hh
  exact asR_some.mpr ⟨q, e, h q o h2⟩
theorem rle_pop1 {st : List Value} {k k' : Value → List Value → RS} (h : ∀ v t, rle (k v t) (k' v t)) : rle (pop1 st k) (pop1 st k') := fun o hh => by
  obtain ⟨v, t, e, h2⟩ := pop1_some.mp hh
  exact pop1_some.mpr ⟨v, t, e, h v t o h2⟩
theorem rle_popI {st : List Value} {k k' : Int32 → List Value → RS} (h : ∀ v t, rle (k v t) (k' v t)) : rle (popI st k) (popI st k') := rle_pop1 fun _ t => rle_asI fun x => h x t
theorem rle_popL {st : List Value} {k k' : Int64 → List Value → RS} (h : ∀ v t, rle (k v t) (k' v t)) : rle (popL st k) (popL st k') := rle_pop1 fun _ t => rle_asL fun x => h x t
theorem rle_popR {st : List Value} {k k' : Nat → List Value → RS} (h : ∀ v t, rle (k v t) (k' v t)) : rle (popR st k) (popR st k') := rle_pop1 fun _ t => rle_asR fun x => h x t
theorem rle_stI {ls : List Value} {i : Nat} {v : Value} {k k' : List Value → RS} (h : ∀ q, rle (k q) (k' q)) : rle (stI ls i v k) (stI ls i v k') := rle_gd (h _)
theorem rle_stL {ls : List Value} {i : Nat} {v : Value} {k k' : List Value → RS} (h : ∀ q, rle (k q) (k' q)) : rle (stL ls i v k) (stL ls i v k') := rle_gd (h _)
theorem rle_brc {c : Prop} {d : Decidable c} {a b a' b' : RS} (h1 : rle a a') (h2 : rle b b') : rle (brc c d a b) (brc c d a' b') := fun o hh => brc_some.mpr ⟨fun q => h1 o ((brc_some.mp hh).1 q), fun q => h2 o ((brc_some.mp hh).2 q)⟩
theorem rle_ite {c : Prop} [Decidable c] {a b a' b' : RS} (h1 : rle a a') (h2 : rle b b') : rle (if c then a else b) (if c then a' else b') := by
  split
  · exact h1
  · exact h2
/-- the answers of E are answers of F -/
def Le (E F : EX) : Prop := ∀ y pc ls st w h, rle (E y pc ls st w h) (F y pc ls st w h)
theorem cal_le {E F : EX} (hE : Le E F) {y z : ME} {pc : Nat} {ls as rest : List Value} {w : WS} {h : HS} : rle (cal E y z pc ls as rest w h) (cal F y z pc ls as rest w h) := by
  unfold cal
  refine rle_gd ?_
  intro o h2
  split at h2
  · next r w' h' he => rw [hE _ _ _ _ _ _ _ he]; exact hE _ _ _ _ _ _ _ h2
  · cases h2
theorem calV_le {E F : EX} (hE : Le E F) {y z : ME} {pc : Nat} {ls st : List Value} {w : WS} {h : HS} : rle (calV E y z pc ls st w h) (calV F y z pc ls st w h) :=
  rle_gd (rle_popR fun _ _ => rle_gd (cal_le hE))
theorem calS_le {E F : EX} (hE : Le E F) {y z : ME} {pc : Nat} {ls st : List Value} {w : WS} {h : HS} : rle (calS E y z pc ls st w h) (calS F y z pc ls st w h) :=
  rle_gd (cal_le hE)
theorem putI_le {y : ME} {w : WS} {h : HS} {ci k a : Nat} {v : Value} {kk kk' : HS → RS} (hk : ∀ h, rle (kk h) (kk' h)) : rle (putI y w h ci k a v kk) (putI y w h ci k a v kk') :=
  rle_gd (rle_gd (rle_ite (rle_asI fun _ => hk _) (rle_ite (rle_asI fun _ => rle_gd (hk _)) (rle_ite (rle_asL fun _ => hk _) (rle_ite (rle_asR fun _ => hk _) rle_rf)))))
theorem inv_le {E F : EX} (hE : Le E F) {y : ME} {pc : Nat} {ls st : List Value} {w : WS} {h : HS} {op i : Nat} : rle (inv E y pc ls st w h op i) (inv F y pc ls st w h op i) := by
  unfold inv
  split
  · refine rle_ite (rle_gd ?_) (rle_ite (rle_gd ?_) (rle_ite (rle_gd ?_) (rle_ite (rle_gd ?_) (rle_ite (rle_gd (rle_popR fun _ _ => rle_gd (hE _ _ _ _ _ _))) (rle_ite (rle_gd (rle_popI fun _ _ => rle_popI fun _ _ => rle_gd (hE _ _ _ _ _ _))) (rle_ite (rle_gd (rle_popI fun _ _ => rle_popI fun _ _ => rle_gd (hE _ _ _ _ _ _))) (rle_ite (rle_gd (rle_popI fun _ _ => rle_popI fun _ _ => rle_popR fun _ _ => rle_popI fun _ _ => rle_popR fun _ _ => rle_gd (hE _ _ _ _ _ _))) rle_rf)))))))
    · split
      · exact calV_le hE
      · exact rle_rf
    · split
      · exact calS_le hE
      · exact rle_rf
    · split
      · exact calS_le hE
      · exact rle_rf
    · split
      · exact calV_le hE
      · exact rle_rf
  · exact rle_rf
theorem stq_le {E F : EX} (hE : Le E F) {y : ME} {pc : Nat} {ls st : List Value} {w : WS} {h : HS} {i : Instr} : rle (stq E y pc ls st w h i) (stq F y pc ls st w h i) := by
  unfold stq
  split
  all_goals first
    | with_reducible exact rle_rf
    | exact hE _ _ _ _ _ _
    | exact inv_le hE
    | (split <;> first | exact hE _ _ _ _ _ _ | with_reducible exact rle_rf | exact rle_popR fun _ _ => rle_gd (hE _ _ _ _ _ _) | exact rle_popI fun _ _ => rle_gd (hE _ _ _ _ _ _) | exact rle_pop1 fun _ _ => rle_popR fun _ _ => putI_le fun _ => hE _ _ _ _ _ _)
    | exact rle_asI fun _ => hE _ _ _ _ _ _
    | exact rle_asL fun _ => hE _ _ _ _ _ _
    | exact rle_asR fun _ => hE _ _ _ _ _ _
    | exact rle_popI fun _ _ => rle_stI fun _ => hE _ _ _ _ _ _
    | exact rle_popL fun _ _ => rle_stL fun _ => hE _ _ _ _ _ _
    | exact rle_popR fun _ _ => rle_stI fun _ => hE _ _ _ _ _ _
    | exact rle_asI fun _ => rle_stI fun _ => hE _ _ _ _ _ _
    | exact rle_popI fun _ _ => rle_popI fun _ _ => hE _ _ _ _ _ _
    | exact rle_popL fun _ _ => rle_popL fun _ _ => hE _ _ _ _ _ _
    | exact rle_popI fun _ _ => hE _ _ _ _ _ _
    | exact rle_pop1 fun _ _ => rle_gd (hE _ _ _ _ _ _)
    | exact rle_pop1 fun _ _ => rle_pop1 fun _ _ => rle_gd (hE _ _ _ _ _ _)
    | exact rle_jmp fun _ => hE _ _ _ _ _ _
    | exact rle_popI fun _ _ => rle_jmp fun _ => rle_brc (hE _ _ _ _ _ _) (hE _ _ _ _ _ _)
    | exact rle_popI fun _ _ => rle_popI fun _ _ => rle_jmp fun _ => rle_brc (hE _ _ _ _ _ _) (hE _ _ _ _ _ _)
    | (refine rle_popI fun _ _ => rle_brc (rle_jmp fun _ => hE _ _ _ _ _ _) ?_; split <;> first | exact rle_jmp fun _ => hE _ _ _ _ _ _ | with_reducible exact rle_rf)
    | exact rle_popI fun _ _ => rle_gd (rle_jmp fun _ => hE _ _ _ _ _ _)
    | exact rle_popI fun _ _ => rle_popR fun _ _ => rle_gd (rle_gdv (hE _ _ _ _ _ _))
    | exact rle_popI fun _ _ => rle_popI fun _ _ => rle_popR fun _ _ => rle_gd (rle_gdv (hE _ _ _ _ _ _))
    | exact rle_popR fun _ _ => rle_popI fun _ _ => rle_popR fun _ _ => rle_gd (rle_gdv (hE _ _ _ _ _ _))
    | exact rle_popR fun _ _ => rle_gd (hE _ _ _ _ _ _)
    | exact rle_popI fun _ _ => rle_gd (hE _ _ _ _ _ _)
theorem stp_le {E F : EX} (hE : Le E F) : Le (stp E) (stp F) := by
  intro y pc ls st w h
  unfold stp
  split
  · exact rle_gd (stq_le hE)
  · exact rle_rf
theorem xc_s : ∀ n, Le (xc n) (xc (n + 1))
  | 0 => fun _ _ _ _ _ _ _ h => by cases h
  | n + 1 => stp_le (xc_s n)
theorem xc_le {a b : Nat} (hab : a ≤ b) : Le (xc a) (xc b) := by
  induction hab with
  | refl => exact fun _ _ _ _ _ _ => rle_rf
  | step _ ih => exact fun y pc ls st w h o ho => xc_s _ y pc ls st w h o (ih y pc ls st w h o ho)
/-- cells are only added -/
def wge (w : WS) (r : RS) : Prop := ∀ v w' h', r = some (v, w', h') → w.2.1 ≤ w'.2.1 ∧ w.2.2 ≤ w'.2.2
def Ge (E : EX) : Prop := ∀ y pc ls st w h, wge w (E y pc ls st w h)
theorem wge_0 {w : WS} : wge w none := fun _ _ _ h => by cases h
theorem wge_gd {w : WS} {c : Prop} [Decidable c] {r : RS} (h : wge w r) : wge w (gd c r) := fun v w' h' hh => h v w' h' (gd_some.mp hh).2
theorem wge_gdv {w : WS} {i : Int32} {n : Nat} {r : RS} (h : wge w r) : wge w (gdv i n r) := fun v w' h' hh => h v w' h' (gdv_some.mp hh).2
theorem wge_jmp {w : WS} {pc : Nat} {off : Int} {k : Nat → RS} (h : ∀ q, wge w (k q)) : wge w (jmp pc off k) := fun v w' h' hh => by
  obtain ⟨q, e, h2⟩ := jmp_some.mp hh
  exact h q v w' h' h2
theorem wge_asI {w : WS} {v : Value} {k : Int32 → RS} (h : ∀ q, wge w (k q)) : wge w (asI v k) := fun v w' h' hh => by
  obtain ⟨q, e, h2⟩ := asI_some.mp hh
  exact h q v w' h' h2
theorem wge_asL {w : WS} {v : Value} {k : Int64 → RS} (h : ∀ q, wge w (k q)) : wge w (asL v k) := fun v w' h' hh => by
  obtain ⟨q, e, h2⟩ := asL_some.mp hh
  exact h q v w' h' h2
theorem wge_asR {w : WS} {v : Value} {k : Nat → RS} (h : ∀ q, wge w (k q)) : wge w (asR v k) := fun v w' h' hh => by
  obtain ⟨q, e, h2⟩ := asR_some.mp hh
  exact h q v w' h' h2
theorem wge_pop1 {w : WS} {st : List Value} {k : Value → List Value → RS} (h : ∀ v t, wge w (k v t)) : wge w (pop1 st k) := fun v w' h' hh => by
  obtain ⟨q, t, e, h2⟩ := pop1_some.mp hh
  exact h q t v w' h' h2
theorem wge_popI {w : WS} {st : List Value} {k : Int32 → List Value → RS} (h : ∀ v t, wge w (k v t)) : wge w (popI st k) := wge_pop1 fun _ t => wge_asI fun x => h x t
theorem wge_popL {w : WS} {st : List Value} {k : Int64 → List Value → RS} (h : ∀ v t, wge w (k v t)) : wge w (popL st k) := wge_pop1 fun _ t => wge_asL fun x => h x t
theorem wge_popR {w : WS} {st : List Value} {k : Nat → List Value → RS} (h : ∀ v t, wge w (k v t)) : wge w (popR st k) := wge_pop1 fun _ t => wge_asR fun x => h x t
theorem wge_brc {w : WS} {c : Prop} {d : Decidable c} {a b : RS} (h1 : wge w a) (h2 : wge w b) : wge w (brc c d a b) := fun v w' h' hh => by
  unfold brc at hh
  split at hh
  · exact h1 v w' h' hh
  · exact h2 v w' h' hh
theorem wge_ite {w : WS} {c : Prop} {d : Decidable c} {a b : RS} (h1 : wge w a) (h2 : wge w b) : wge w (@ite _ c d a b) := by
  split
  · exact h1
  · exact h2
theorem wge_alc {w : WS} {s : Nat × Nat} {k : Nat} {r : RS} (h : wge (alc w s k) r) : wge w r := fun v w' h' hh => by
  have := h v w' h' hh
  simp only [alc] at this
  omega
theorem wge_end {w : WS} {h : HS} {v : Option Value} : wge w (some (v, w, h)) := fun _ _ _ hh => by cases hh; exact ⟨Nat.le_refl _, Nat.le_refl _⟩
theorem wge_cal {E : EX} (hE : Ge E) {y z : ME} {pc : Nat} {ls as rest : List Value} {w : WS} {h : HS} : wge w (cal E y z pc ls as rest w h) := by
  unfold cal
  refine wge_gd ?_
  intro v w2 h2 hh
  split at hh
  · next r w' h' he =>
    have h1 := hE _ _ _ _ _ _ _ _ _ he
    have h3 := hE _ _ _ _ _ _ _ _ _ hh
    omega
  · cases hh
theorem wge_calV {E : EX} (hE : Ge E) {y z : ME} {pc : Nat} {ls st : List Value} {w : WS} {h : HS} : wge w (calV E y z pc ls st w h) :=
  wge_gd (wge_popR fun _ _ => wge_gd (wge_cal hE))
theorem wge_calS {E : EX} (hE : Ge E) {y z : ME} {pc : Nat} {ls st : List Value} {w : WS} {h : HS} : wge w (calS E y z pc ls st w h) :=
  wge_gd (wge_cal hE)
theorem wge_putI {y : ME} {w : WS} {h : HS} {ci k a : Nat} {v : Value} {kk : HS → RS} (hk : ∀ h, wge w (kk h)) : wge w (putI y w h ci k a v kk) :=
  wge_gd (wge_gd (wge_ite (wge_asI fun _ => hk _) (wge_ite (wge_asI fun _ => wge_gd (hk _)) (wge_ite (wge_asL fun _ => hk _) (wge_ite (wge_asR fun _ => hk _) wge_0)))))
theorem wge_inv {E : EX} (hE : Ge E) {y : ME} {pc : Nat} {ls st : List Value} {w : WS} {h : HS} {op i : Nat} : wge w (inv E y pc ls st w h op i) := by
  unfold inv
  split
  · refine wge_ite (wge_gd ?_) (wge_ite (wge_gd ?_) (wge_ite (wge_gd ?_) (wge_ite (wge_gd ?_) (wge_ite (wge_gd (wge_popR fun _ _ => wge_gd (hE _ _ _ _ _ _))) (wge_ite (wge_gd (wge_popI fun _ _ => wge_popI fun _ _ => wge_gd (hE _ _ _ _ _ _))) (wge_ite (wge_gd (wge_popI fun _ _ => wge_popI fun _ _ => wge_gd (hE _ _ _ _ _ _))) (wge_ite (wge_gd (wge_popI fun _ _ => wge_popI fun _ _ => wge_popR fun _ _ => wge_popI fun _ _ => wge_popR fun _ _ => wge_gd (hE _ _ _ _ _ _))) wge_0)))))))
    · split
      · exact wge_calV hE
      · exact wge_0
    · split
      · exact wge_calS hE
      · exact wge_0
    · split
      · exact wge_calS hE
      · exact wge_0
    · split
      · exact wge_calV hE
      · exact wge_0
  · exact wge_0
theorem wge_stq {E : EX} (hE : Ge E) {y : ME} {pc : Nat} {ls st : List Value} {w : WS} {h : HS} {i : Instr} : wge w (stq E y pc ls st w h i) := by
  unfold stq
  split
  all_goals first
    | with_reducible exact wge_0
    | exact hE _ _ _ _ _ _
    | exact wge_inv hE
    | (split <;> first | exact hE _ _ _ _ _ _ | with_reducible exact wge_0 | exact wge_popR fun _ _ => wge_gd (hE _ _ _ _ _ _) | exact wge_popI fun _ _ => wge_gd (wge_alc (hE _ _ _ _ _ _)) | exact wge_alc (hE _ _ _ _ _ _) | exact wge_pop1 fun _ _ => wge_popR fun _ _ => wge_putI fun _ => hE _ _ _ _ _ _ | exact wge_ite wge_end wge_0 | exact wge_gd wge_end)
    | exact wge_asI fun _ => hE _ _ _ _ _ _
    | exact wge_asL fun _ => hE _ _ _ _ _ _
    | exact wge_asR fun _ => hE _ _ _ _ _ _
    | exact wge_popI fun _ _ => wge_gd (hE _ _ _ _ _ _)
    | exact wge_popL fun _ _ => wge_gd (hE _ _ _ _ _ _)
    | exact wge_popR fun _ _ => wge_gd (hE _ _ _ _ _ _)
    | exact wge_asI fun _ => wge_gd (hE _ _ _ _ _ _)
    | exact wge_popI fun _ _ => wge_popI fun _ _ => hE _ _ _ _ _ _
    | exact wge_popL fun _ _ => wge_popL fun _ _ => hE _ _ _ _ _ _
    | exact wge_popI fun _ _ => hE _ _ _ _ _ _
    | exact wge_pop1 fun _ _ => wge_gd (hE _ _ _ _ _ _)
    | exact wge_pop1 fun _ _ => wge_pop1 fun _ _ => wge_gd (hE _ _ _ _ _ _)
    | exact wge_jmp fun _ => hE _ _ _ _ _ _
    | exact wge_popI fun _ _ => wge_jmp fun _ => wge_brc (hE _ _ _ _ _ _) (hE _ _ _ _ _ _)
    | exact wge_popI fun _ _ => wge_popI fun _ _ => wge_jmp fun _ => wge_brc (hE _ _ _ _ _ _) (hE _ _ _ _ _ _)
    | (refine wge_popI fun _ _ => wge_brc (wge_jmp fun _ => hE _ _ _ _ _ _) ?_; split <;> first | exact wge_jmp fun _ => hE _ _ _ _ _ _ | with_reducible exact wge_0)
    | exact wge_popI fun _ _ => wge_gd (wge_jmp fun _ => hE _ _ _ _ _ _)
    | exact wge_popI fun _ _ => wge_popR fun _ _ => wge_gd (wge_gdv (hE _ _ _ _ _ _))
    | exact wge_popI fun _ _ => wge_popI fun _ _ => wge_popR fun _ _ => wge_gd (wge_gdv (hE _ _ _ _ _ _))
    | exact wge_popR fun _ _ => wge_popI fun _ _ => wge_popR fun _ _ => wge_gd (wge_gdv (hE _ _ _ _ _ _))
    | exact wge_popI fun _ _ => wge_gd (wge_alc (hE _ _ _ _ _ _))
theorem wge_stp {E : EX} (hE : Ge E) : Ge (stp E) := by
  intro y pc ls st w h
  unfold stp
  split
  · exact wge_gd (wge_stq hE)
  · exact wge_0
theorem xc_ge : ∀ n, Ge (xc n)
  | 0 => fun _ _ _ _ _ _ _ _ _ h => by cases h
  | n + 1 => wge_stp (xc_ge n)
