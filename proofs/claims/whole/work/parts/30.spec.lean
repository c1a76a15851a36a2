/-! ===== what the document says of the calls: one state, one answer a call ===== -/
/-- the text; lines, words, rules; states back, the newest first; how many lines were painted anew; refusals -/
abbrev SP : Type := List Int32 × ZS × List ZS × Nat × (Int32 × Int32 × Int32)
def SV (S : SP) : Prop := S.1.length ≤ 30 ∧ zV S.2.1 ∧ hsV S.2.2.1 ∧ S.2.2.2.1 ≤ 10
def badS (S : SP) : SP := (S.1, S.2.1, S.2.2.1, S.2.2.2.1, (S.2.2.2.2.1 + 1, S.2.2.2.2.2.1, S.2.2.2.2.2.2))
def noS (S : SP) : SP := (S.1, S.2.1, S.2.2.1, S.2.2.2.1, (S.2.2.2.2.1, S.2.2.2.2.2.1 + 1, S.2.2.2.2.2.2))
def fullS (S : SP) : SP := (S.1, S.2.1, S.2.2.1, S.2.2.2.1, (S.2.2.2.2.1, S.2.2.2.2.2.1, S.2.2.2.2.2.2 + 1))
/-- a call told S: the state ahead of it can be gone back to -/
def chS (S : SP) (Z : ZS) (an : Nat) : SP := (S.1, Z, (S.2.1 :: S.2.2.1).take 5, an, S.2.2.2.2)
abbrev byI (c : Int32) : Prop := 32 ≤ c ∧ c ≤ 126
def sp_type (c : Int32) (S : SP) : Int32 × SP := if ¬ byI c then (-2, badS S) else if 30 ≤ S.1.length then (-4, fullS S) else (nI (S.1.length + 1), (S.1 ++ [c], S.2))
def sp_clear (S : SP) : Int32 × SP := (nI S.1.length, ([], S.2))
def sp_inserts (k : Int32) (S : SP) : Int32 × SP :=
  if ¬ inR k (S.2.1.1.length + 1) then (-2, badS S) else if S.2.1.1.length = 10 then (-4, fullS S)
  else (nI (S.2.1.1.length + 1), chS S (S.2.1.1.take k.toNatClampNeg ++ S.1 :: S.2.1.1.drop k.toNatClampNeg, S.2.1.2) (anewN S.2.1.2.1 (S.2.1.1.take k.toNatClampNeg ++ S.1 :: S.2.1.1.drop k.toNatClampNeg) (fun j => j == k.toNatClampNeg) (fun j => if j < k.toNatClampNeg then stAt S.2.1.2.1 S.2.1.1 (j + 1) else stAt S.2.1.2.1 S.2.1.1 j) k.toNatClampNeg k.toNatClampNeg))
/-- a line's bytes become others -/
def setS (k : Nat) (l : List Int32) (S : SP) : SP := chS S (S.2.1.1.set k l, S.2.1.2) (anewN S.2.1.2.1 (S.2.1.1.set k l) (fun _ => false) (fun j => stAt S.2.1.2.1 S.2.1.1 (j + 1)) k k)
def sp_sets (k : Int32) (S : SP) : Int32 × SP :=
  if ¬ inR k S.2.1.1.length then (-2, badS S)
  else (nI (S.2.1.1.getD k.toNatClampNeg []).length, if S.2.1.1.getD k.toNatClampNeg [] = S.1 then chS S S.2.1 0 else setS k.toNatClampNeg S.1 S)
def sp_drops (k : Int32) (S : SP) : Int32 × SP :=
  if ¬ inR k S.2.1.1.length then (-2, badS S)
  else (nI (S.2.1.1.length - 1), chS S (S.2.1.1.eraseIdx k.toNatClampNeg, S.2.1.2) (anewN S.2.1.2.1 (S.2.1.1.eraseIdx k.toNatClampNeg) (fun _ => false) (fun j => if j < k.toNatClampNeg then stAt S.2.1.2.1 S.2.1.1 (j + 1) else stAt S.2.1.2.1 S.2.1.1 (j + 2)) k.toNatClampNeg k.toNatClampNeg))
def sp_puts (k i c : Int32) (S : SP) : Int32 × SP :=
  if ¬ (inR k S.2.1.1.length ∧ inR i ((S.2.1.1.getD k.toNatClampNeg []).length + 1) ∧ byI c) then (-2, badS S)
  else if 30 ≤ (S.2.1.1.getD k.toNatClampNeg []).length then (-4, fullS S)
  else (nI ((S.2.1.1.getD k.toNatClampNeg []).length + 1), setS k.toNatClampNeg ((S.2.1.1.getD k.toNatClampNeg []).take i.toNatClampNeg ++ c :: (S.2.1.1.getD k.toNatClampNeg []).drop i.toNatClampNeg) S)
def sp_erases (k i : Int32) (S : SP) : Int32 × SP :=
  if ¬ (inR k S.2.1.1.length ∧ inR i (S.2.1.1.getD k.toNatClampNeg []).length) then (-2, badS S)
  else ((S.2.1.1.getD k.toNatClampNeg []).getD i.toNatClampNeg 0, setS k.toNatClampNeg ((S.2.1.1.getD k.toNatClampNeg []).eraseIdx i.toNatClampNeg) S)
def splL (ls : List (List Int32)) (k i : Nat) : List (List Int32) := ls.take k ++ (ls.getD k []).take i :: (ls.getD k []).drop i :: ls.drop (k + 1)
def sp_splits (k i : Int32) (S : SP) : Int32 × SP :=
  if ¬ (inR k S.2.1.1.length ∧ inR i ((S.2.1.1.getD k.toNatClampNeg []).length + 1)) then (-2, badS S)
  else if S.2.1.1.length = 10 then (-4, fullS S)
  else (nI (S.2.1.1.length + 1), chS S (splL S.2.1.1 k.toNatClampNeg i.toNatClampNeg, S.2.1.2) (anewN S.2.1.2.1 (splL S.2.1.1 k.toNatClampNeg i.toNatClampNeg) (fun j => j == k.toNatClampNeg + 1) (fun j => if j ≤ k.toNatClampNeg then stAt S.2.1.2.1 S.2.1.1 (j + 1) else stAt S.2.1.2.1 S.2.1.1 j) k.toNatClampNeg (k.toNatClampNeg + 1)))
abbrev wrdI (T : List Int32) : Prop := (1 ≤ T.length ∧ T.length ≤ 5) ∧ ∀ c ∈ T, isL c
def sp_word (S : SP) : Int32 × SP :=
  if ¬ wrdI S.1 ∨ hasW S.2.1.2.1 S.1 S.2.1.2.1.length 0 = true then (-3, noS S) else if S.2.1.2.1.length = 4 then (-4, fullS S)
  else (nI S.2.1.2.1.length, chS S (S.2.1.1, S.2.1.2.1 ++ [S.1], S.2.1.2.2) S.2.1.1.length)
def sp_unword (x : Int32) (S : SP) : Int32 × SP :=
  if ¬ inR x 26 then (-2, badS S)
  else (nI (S.2.1.2.1.length - (remF (97 + x) S.2.1.2.1 S.2.1.2.1.length 0).length), chS S (S.2.1.1, remF (97 + x) S.2.1.2.1 S.2.1.2.1.length 0, S.2.1.2.2) S.2.1.1.length)
def sp_rule (c m s : Int32) (S : SP) : Int32 × SP :=
  if ¬ ((-1 ≤ c ∧ c ≤ 7) ∧ (-1 ≤ m ∧ m ≤ 2) ∧ (0 ≤ s ∧ s ≤ 99)) then (-2, badS S) else if S.2.1.2.2.length = 12 then (-4, fullS S)
  else (nI S.2.1.2.2.length, chS S (S.2.1.1, S.2.1.2.1, S.2.1.2.2 ++ [(c, m, s)]) S.2.2.2.1)
/-- line k's colours and modes -/
def colS (S : SP) (k : Nat) : List (Int32 × Int32) := (lineP S.2.1.2.1 (S.2.1.1.getD k []) (stAt S.2.1.2.1 S.2.1.1 k)).1
def endS (S : SP) (k : Nat) : List Nat × Nat := stAt S.2.1.2.1 S.2.1.1 (k + 1)
def atV (S : SP) (k i : Nat) (x : Nat) : Int32 := if x = 0 then (S.2.1.1.getD k []).getD i 0 else if x = 1 then ((colS S k).getD i (0, 0)).1 else (shF S.2.1.2.2 ((colS S k).getD i (0, 0)).1.toNatClampNeg ((colS S k).getD i (0, 0)).2.toNatClampNeg).2
def sp_at (k i x : Int32) (S : SP) : Int32 × SP :=
  if ¬ (inR k S.2.1.1.length ∧ inR i (S.2.1.1.getD k.toNatClampNeg []).length ∧ inR x 3) then (-2, badS S)
  else (atV S k.toNatClampNeg i.toNatClampNeg x.toNatClampNeg, S)
def ofV (S : SP) (k x : Nat) : Int32 := if x = 0 then nI (S.2.1.1.getD k []).length else if x = 1 then nI (cntF (begC (colS S k)) (S.2.1.1.getD k []).length 0) else if x = 2 then nI (endS S k).1.length else if x = 3 then mdI (topP (endS S k).1) else if x = 4 then (if topP (endS S k).1 = 1 then 34 else if topP (endS S k).1 = 2 then 39 else -1) else mkI (endS S k).2
def sp_of (k x : Int32) (S : SP) : Int32 × SP :=
  if ¬ (inR k S.2.1.1.length ∧ inR x 6) then (-2, badS S) else (ofV S k.toNatClampNeg x.toNatClampNeg, S)
def spanV (S : SP) (k i x : Nat) : Int32 := match fndF (begC (colS S k)) (S.2.1.1.getD k []).length 0 i with
  | none => -1
  | some b => if x = 0 then nI b else if x = 1 then nI (endF (begC (colS S k)) ((S.2.1.1.getD k []).length - (b + 1)) (b + 1) - b) else ((colS S k).getD b (0, 0)).1
def sp_span (k i x : Int32) (S : SP) : Int32 × SP :=
  if ¬ (inR k S.2.1.1.length ∧ ¬ i < 0 ∧ inR x 3) then (-2, badS S) else (spanV S k.toNatClampNeg i.toNatClampNeg x.toNatClampNeg, S)
def sp_anew (S : SP) : Int32 × SP := (nI S.2.2.2.1, S)
def ptdF (S : SP) (x : Int32) : Nat → Nat → Nat
  | 0, _ => 0
  | n + 1, k => cntF (fun j => ((colS S k).getD j (0, 0)).1 == x) (S.2.1.1.getD k []).length 0 + ptdF S x n (k + 1)
def sp_painted (x : Int32) (S : SP) : Int32 × SP := if ¬ inR x 8 then (-2, badS S) else (nI (ptdF S x S.2.1.1.length 0), S)
def sp_back (S : SP) : Int32 × SP := match S.2.2.1 with
  | [] => (-3, noS S)
  | Z :: H => (nI H.length, (S.1, Z, H, 0, S.2.2.2.2))
def toldV (S : SP) (x : Nat) : Int32 := if x = 0 then S.2.2.2.2.1 else if x = 1 then S.2.2.2.2.2.1 else if x = 2 then S.2.2.2.2.2.2 else if x = 3 then nI S.1.length else if x = 4 then nI S.2.1.1.length else if x = 5 then nI S.2.1.2.1.length else if x = 6 then nI S.2.1.2.2.length else nI S.2.2.1.length
def sp_told (x : Int32) (S : SP) : Int32 × SP := if ¬ inR x 8 then (-2, badS S) else (toldV S x.toNatClampNeg, S)
/-- h = 31 h + v, for each v -/
def mixF (f : Nat → Int32) : Nat → Nat → Int64 → Int64
  | 0, _, h => h
  | n + 1, i, h => mixF f n (i + 1) (31 * h + (f i).toInt64)
def digB (S : SP) (k : Nat) : Nat → Nat → Int64 → Int64
  | 0, _, h => h
  | n + 1, i, h => digB S k n (i + 1) (mixF (atV S k i) 3 0 h)
def digL (S : SP) : Nat → Nat → Int64 → Int64
  | 0, _, h => h
  | n + 1, k, h => digL S n (k + 1) (digB S k (S.2.1.1.getD k []).length 0 (mixF (ofV S k) 6 0 h))
def sp_digest (S : SP) : Int64 := digL S S.2.1.1.length 0 (31 * mixF (toldV S) 8 0 2543 + (nI S.2.2.2.1).toInt64)
/-! ===== the class holds such a state ===== -/
/-- every line's cells, also of one that isn't used now: it is new, or its state is one -/
def phOK (I : Nat → Nat → Int32) : Prop := ∀ p, p < 10 → I (6 + 7 * p) 4 = 1 ∨ (I (6 + 7 * p) 4 = 0 ∧ ∃ E, stV E ∧ stIs I (6 + 7 * p + 5) (6 + 7 * p + 6) E)
theorem phOK.fr {I I' : Nat → Nat → Int32} (h : phOK I) (e : ∀ c, 6 ≤ c → c < 76 → I' c = I c) : phOK I' := fun p hp => by
  rcases h p hp with q | ⟨q, E, q1, q2⟩
  · left; rw [e _ (by omega) (by omega)]; exact q
  · right; exact ⟨by rw [e _ (by omega) (by omega)]; exact q, E, q1, q2.fr (e _ (by omega) (by omega)) (e _ (by omega) (by omega))⟩
def RC (I : Nat → Nat → Int32) (π : Nat → Nat) (nx : Nat) (S : SP) : Prop :=
  rowIs I 2 3 S.1 ∧ pgIs I π S.2.1.1 ∧ wdIs I 76 78 S.2.1.2.1 ∧ rlIs I 86 87 88 S.2.1.2.2 ∧ hsIs I nx S.2.2.1 ∧ I 1 4 = nI S.2.2.2.1 ∧ (I 269 0 = S.2.2.2.2.1 ∧ I 269 1 = S.2.2.2.2.2.1 ∧ I 269 2 = S.2.2.2.2.2.2) ∧ (∀ k, k < S.2.1.1.length → pdIs I π S.2.1.2.1 S.2.1.1 k) ∧ phOK I
def CS (w : WS) (I : Nat → Nat → Int32) (Q : Nat → Nat → Option Nat) (S : SP) : Prop := gOK w Q ∧ SV S ∧ ∃ π nx, piOK Q π ∧ RC I π nx S
/-- a call of the class answers r and comes to S' -/
def CA (w : WS) (I : Nat → Nat → Int32) (Q : Nat → Nat → Option Nat) (J : Nat → Nat → Int64) (m : ME) (as : List Value) (r : Value) (S' : SP) : Prop := ∃ (I' : Nat → Nat → Int32) (Q' : Nat → Nat → Option Nat), CS w I' Q' S' ∧ Fr (fun c => 1 ≤ c ∧ c < 270) I I' ∧ (∀ c, c ≠ 5 → Q' c = Q c) ∧ ∀ K, (WP m 0 as [] w (I, Q, J) K ↔ K (some r) w (I', Q', J))
theorem CA.same {w : WS} {I : Nat → Nat → Int32} {Q : Nat → Nat → Option Nat} {J : Nat → Nat → Int64} {m : ME} {as : List Value} {r : Value} {S : SP} (c : CS w I Q S) (h : ∀ K, (WP m 0 as [] w (I, Q, J) K ↔ K (some r) w (I, Q, J))) : CA w I Q J m as r S := ⟨I, Q, c, Fr.rf, fun _ _ => rfl, h⟩
section C0
variable {w : WS} {I : Nat → Nat → Int32} {Q : Nat → Nat → Option Nat} {J : Nat → Nat → Int64} {K : Option Value → WS → HS → Prop} {S : SP}
theorem c_refuse {j : Nat} (hj : j < 3) (g : gOK w Q) : WP mX9_refuse 0 [.ref 1, .int (-2 - nI j), .null] [] w (I, Q, J) K ↔ K (some (.int (-2 - nI j))) w (u2 I 269 j (I 269 j + 1), Q, J) := by
  obtain ⟨⟨a1, a2, a3, a4, a5⟩, -, -, -, -, -, -, z⟩ := id g
  have e : -2 - (-2 - nI j) = nI j := by rcases (show j = 0 ∨ j = 1 ∨ j = 2 by omega) with rfl | rfl | rfl <;> decide
  simp only [rX9_refuse_0, rX9_refuse_2, rX9_refuse_3, rX9_refuse_4, rX9_refuse_5, rX9_refuse_6, rX9_refuse_9, rX9_refuse_10, rX9_refuse_11, rX9_refuse_14, rX9_refuse_15, rX9_refuse_18, rX9_refuse_19, rX9_refuse_22, rX9_refuse_23, rX9_refuse_24, rX9_refuse_25, rX9_refuse_26, rX9_refuse_27, rX9_refuse_28, rX9_refuse_29, a1, a5, z, rf_some, true_and, true_or, e, nI_pos (show j < 2 ^ 31 by omega), if_false]
  rw [if_neg (nI_ge (show j < 3 by omega) (by decide))]
  simp only [vin_nI hj (by decide), true_and, nI_clamp (show j < 2 ^ 31 by omega), ne_eq, show ¬ (269 : Nat) = 0 by decide, not_false_eq_true]
/-- refused: only a count changes -/
theorem RC.ref {π : Nat → Nat} {nx j : Nat} {S' : SP} (rc : RC I π nx S) (hv : SV S) (hS : S' = (S.1, S.2.1, S.2.2.1, S.2.2.2.1, S'.2.2.2.2)) (h0 : u2 I 269 j (I 269 j + 1) 269 0 = S'.2.2.2.2.1) (h1 : u2 I 269 j (I 269 j + 1) 269 1 = S'.2.2.2.2.2.1) (h2 : u2 I 269 j (I 269 j + 1) 269 2 = S'.2.2.2.2.2.2) (hp : ∀ k, k < 10 → π k < 10) : RC (u2 I 269 j (I 269 j + 1)) π nx S' := by
  obtain ⟨r1, r2, r3, r4, r5, r6, r7, r8, r9⟩ := rc
  have e : ∀ z, z ≠ 269 → u2 I 269 j (I 269 j + 1) z = I z := fun z q => Fr_u2 z q
  have hl10 := hv.2.1.1.1
  rw [hS]
  refine ⟨r1.fr (e _ (by omega)) (e _ (by omega)), ⟨by rw [e 4 (by omega)]; exact r2.1, fun k hk => (r2.2 k hk).fr (e _ (by have := hp k (by dsimp only at hk; omega); omega)) (e _ (by have := hp k (by dsimp only at hk; omega); omega))⟩, r3.fr hv.2.1.2.1.1 (e _ (by omega)) (fun c _ _ => e c (by omega)), r4.fr (e _ (by omega)) (e _ (by omega)) (e _ (by omega)), ⟨by rw [e 92 (by omega)]; exact r5.1, by rw [e 92 (by omega)]; exact r5.2.1, r5.2.2.1, fun d hd => (r5.2.2.2 d hd).fr (hv.2.2.1.2 d hd) (fun c _ _ => e c (by omega))⟩, by rw [e 1 (by omega)]; exact r6, ⟨h0, h1, h2⟩, fun k hk => (r8 k hk).fr (fun c _ _ => e c (by have := hp k (by dsimp only at hk hl10; omega); omega)), r9.fr (fun c _ _ => e c (by omega))⟩
theorem CS.bad (c : CS w I Q S) : CS w (u2 I 269 0 (I 269 0 + 1)) Q (badS S) := by
  obtain ⟨g, hv, π, nx, hp, rc⟩ := c
  refine ⟨g, hv, π, nx, hp, rc.ref hv rfl ?_ ?_ ?_ (fun k hk => (hp.1 k hk).2)⟩
  · rw [u2_same, rc.2.2.2.2.2.2.1.1]; rfl
  · rw [u2_ne (Or.inr (by decide))]; exact rc.2.2.2.2.2.2.1.2.1
  · rw [u2_ne (Or.inr (by decide))]; exact rc.2.2.2.2.2.2.1.2.2
theorem CS.no (c : CS w I Q S) : CS w (u2 I 269 1 (I 269 1 + 1)) Q (noS S) := by
  obtain ⟨g, hv, π, nx, hp, rc⟩ := c
  refine ⟨g, hv, π, nx, hp, rc.ref hv rfl ?_ ?_ ?_ (fun k hk => (hp.1 k hk).2)⟩
  · rw [u2_ne (Or.inr (by decide))]; exact rc.2.2.2.2.2.2.1.1
  · rw [u2_same, rc.2.2.2.2.2.2.1.2.1]; rfl
  · rw [u2_ne (Or.inr (by decide))]; exact rc.2.2.2.2.2.2.1.2.2
theorem CS.full (c : CS w I Q S) : CS w (u2 I 269 2 (I 269 2 + 1)) Q (fullS S) := by
  obtain ⟨g, hv, π, nx, hp, rc⟩ := c
  refine ⟨g, hv, π, nx, hp, rc.ref hv rfl ?_ ?_ ?_ (fun k hk => (hp.1 k hk).2)⟩
  · rw [u2_ne (Or.inr (by decide))]; exact rc.2.2.2.2.2.2.1.1
  · rw [u2_ne (Or.inr (by decide))]; exact rc.2.2.2.2.2.2.1.2.1
  · rw [u2_same, rc.2.2.2.2.2.2.1.2.2]; rfl
theorem rfB (g : gOK w Q) : WP mX9_refuse 0 [.ref 1, .int (-2), .null] [] w (I, Q, J) K ↔ K (some (.int (-2))) w (u2 I 269 0 (I 269 0 + 1), Q, J) := c_refuse (j := 0) (by decide) g
theorem rfN (g : gOK w Q) : WP mX9_refuse 0 [.ref 1, .int (-3), .null] [] w (I, Q, J) K ↔ K (some (.int (-3))) w (u2 I 269 1 (I 269 1 + 1), Q, J) := c_refuse (j := 1) (by decide) g
theorem rfF (g : gOK w Q) : WP mX9_refuse 0 [.ref 1, .int (-4), .null] [] w (I, Q, J) K ↔ K (some (.int (-4))) w (u2 I 269 2 (I 269 2 + 1), Q, J) := c_refuse (j := 2) (by decide) g
theorem CA.bad {m : ME} {as : List Value} (c : CS w I Q S) (h : ∀ K, (WP m 0 as [] w (I, Q, J) K ↔ K (some (.int (-2))) w (u2 I 269 0 (I 269 0 + 1), Q, J))) : CA w I Q J m as (.int (-2)) (badS S) :=
  ⟨_, Q, c.bad, Fr_u2.wk (fun c z => by omega), fun _ _ => rfl, h⟩
theorem CA.no {m : ME} {as : List Value} (c : CS w I Q S) (h : ∀ K, (WP m 0 as [] w (I, Q, J) K ↔ K (some (.int (-3))) w (u2 I 269 1 (I 269 1 + 1), Q, J))) : CA w I Q J m as (.int (-3)) (noS S) :=
  ⟨_, Q, c.no, Fr_u2.wk (fun c z => by omega), fun _ _ => rfl, h⟩
theorem CA.full {m : ME} {as : List Value} (c : CS w I Q S) (h : ∀ K, (WP m 0 as [] w (I, Q, J) K ↔ K (some (.int (-4))) w (u2 I 269 2 (I 269 2 + 1), Q, J))) : CA w I Q J m as (.int (-4)) (fullS S) :=
  ⟨_, Q, c.full, Fr_u2.wk (fun c z => by omega), fun _ _ => rfl, h⟩
end C0
