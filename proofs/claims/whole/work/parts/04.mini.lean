/-! ===== a small machine over the same bytes: cells by number (0 the script, then as they are made), their shapes, and what they hold ===== -/
abbrev m_nm (y : ME) : MethodName := y.1
abbrev m_bc (y : ME) : ByteArray := y.2.1
abbrev m_ml (y : ME) : Nat := y.2.2.1
abbrev m_rt (y : ME) : Option FieldType := y.2.2.2.1
abbrev m_oc (y : ME) : Nat := y.2.2.2.2.1
abbrev m_dp (y : ME) : Nat := y.2.2.2.2.2.1
abbrev m_na (y : ME) : Nat := y.2.2.2.2.2.2.1
abbrev m_in (y : ME) : Nat := y.2.2.2.2.2.2.2.1
abbrev m_pl (y : ME) : Nat := y.2.2.2.2.2.2.2.2
/-- shapes (an object: its class and 0; ints: 20 and how many; references: 20 + kind and how many; nothing: 99), how many cells, how many slots -/
abbrev WS : Type := (Nat → Nat × Nat) × Nat × Nat
/-- what cells hold: ints, references, longs -/
abbrev HS : Type := (Nat → Nat → Int32) × (Nat → Nat → Option Nat) × (Nat → Nat → Int64)
def u2 {α : Type} (f : Nat → Nat → α) (a k : Nat) (v : α) : Nat → Nat → α := fun b j => if b = a ∧ j = k then v else f b j
def uA {α : Type} (f : Nat → Nat → α) (a : Nat) (g : Nat → α) : Nat → Nat → α := fun b j => if b = a then g j else f b j
def u1 {α : Type} (f : Nat → α) (a : Nat) (v : α) : Nat → α := fun b => if b = a then v else f b
def gtg (ci k : Nat) : Nat := (gT.getD ci []).getD k 99
def fRes (oc i : Nat) : Option (Nat × Nat × Nat) := lk (fT.getD oc []) i
def cRes (oc i : Nat) : Option (Nat × Nat × Nat × Nat × Nat × Nat) := lk (cT.getD oc []) i
def nRes (oc i : Nat) : Option (Nat × Nat × Nat × Nat) := lk (nT.getD oc []) i
def kRes (oc i : Nat) : Option (Int64 × Nat) := lk (kT.getD oc []) i
/-- a class's array kind: 1 Line, 2 Row, 3 Kept -/
def kdOf (ci : Nat) : Nat := if ci = 2 then 1 else if ci = 5 then 2 else if ci = 1 then 3 else 0
def clOf (kd : Nat) : Nat := if kd = 1 then 2 else if kd = 2 then 5 else 1
def nfOf (ci : Nat) : Nat := (gT.getD ci []).length
def rdF (h : HS) (t a k : Nat) : Value := if t % 10 = 2 then .long (h.2.2 a k) else if t % 10 = 3 then va_rf (h.2.1 a k) else .int (h.1 a k)
abbrev RS : Type := Option (Option Value × WS × HS)
abbrev EX : Type := ME → Nat → List Value → List Value → WS → HS → RS
def gd (c : Prop) [Decidable c] (r : RS) : RS := if c then r else none
def jmp (pc : Nat) (off : Int) (k : Nat → RS) : RS := gd (0 ≤ (pc : Int) + off) (k ((pc : Int) + off).toNat)
def asI (v : Value) (k : Int32 → RS) : RS := match v with | .int x => k x | _ => none
def asL (v : Value) (k : Int64 → RS) : RS := match v with | .long x => k x | _ => none
def asR (v : Value) (k : Nat → RS) : RS := match v with | .ref x => k x | _ => none
def pop1 (st : List Value) (k : Value → List Value → RS) : RS := match st with | v :: t => k v t | [] => none
def popI (st : List Value) (k : Int32 → List Value → RS) : RS := pop1 st fun v t => asI v fun x => k x t
def popL (st : List Value) (k : Int64 → List Value → RS) : RS := pop1 st fun v t => asL v fun x => k x t
def popR (st : List Value) (k : Nat → List Value → RS) : RS := pop1 st fun v t => asR v fun x => k x t
def stI (ls : List Value) (i : Nat) (v : Value) (k : List Value → RS) : RS := gd (i < ls.length ∧ (i = 0 ∨ (ls.getD (i - 1) .null).category = 1)) (k (ls.set i v))
def stL (ls : List Value) (i : Nat) (v : Value) (k : List Value → RS) : RS := gd (i + 1 < ls.length ∧ (i = 0 ∨ (ls.getD (i - 1) .null).category = 1)) (k ((ls.set i v).set (i + 1) .null))
def cnd (c : Jvm.ClassFile.Cond) (x y : Int32) : Prop := match c with
  | .eq => x = y | .ne => ¬ x = y | .lt => x < y | .ge => y ≤ x | .gt => y < x | .le => x ≤ y
def cndD (c : Jvm.ClassFile.Cond) (x y : Int32) : Decidable (cnd c x y) := match c with
  | .eq => inferInstanceAs (Decidable (x = y)) | .ne => inferInstanceAs (Decidable (¬ x = y)) | .lt => inferInstanceAs (Decidable (x < y)) | .ge => inferInstanceAs (Decidable (y ≤ x)) | .gt => inferInstanceAs (Decidable (y < x)) | .le => inferInstanceAs (Decidable (x ≤ y))
def brc (c : Prop) (d : Decidable c) (a b : RS) : RS := @ite _ c d a b
def alc (w : WS) (s : Nat × Nat) (k : Nat) : WS := (u1 w.1 (w.2.1 + 1) s, w.2.1 + 1, w.2.2 + k)
def expL : List Value → List Value
  | [] => []
  | v :: vs => if v.category = 2 then v :: .null :: expL vs else v :: expL vs
def entL (n : Nat) (as : List Value) : List Value := expL as ++ List.replicate (n - (expL as).length) .null
def vin (i : Int32) (n : Nat) : Prop := ¬ i < 0 ∧ i.toNatClampNeg < n
def vinD (i : Int32) (n : Nat) : Decidable (vin i n) := inferInstanceAs (Decidable (¬ i < 0 ∧ i.toNatClampNeg < n))
def gdv (i : Int32) (n : Nat) (r : RS) : RS := @ite _ (vin i n) (vinD i n) r none
/-- a call: the callee with its arguments, then the rest -/
def cal (E : EX) (y z : ME) (pc : Nat) (ls : List Value) (as rest : List Value) (w : WS) (h : HS) : RS :=
  gd (rest.length ≤ 4 ∧ (expL as).length ≤ m_ml z ∧ m_dp z + 1 ≤ m_dp y) (match E z 0 (entL (m_ml z) as) [] w h with
    | some (r, w', h') => E y (pc + 3) ls (r.toList ++ rest) w' h'
    | none => none)
def calV (E : EX) (y z : ME) (pc : Nat) (ls st : List Value) (w : WS) (h : HS) : RS :=
  gd (m_na z ≤ st.length) (popR (st.drop (m_na z)) fun b rest => gd (w.1 b = (m_oc z, 0)) (cal E y z pc ls (.ref b :: (st.take (m_na z)).reverse) rest w h))
def calS (E : EX) (y z : ME) (pc : Nat) (ls st : List Value) (w : WS) (h : HS) : RS :=
  gd (m_na z ≤ st.length) (cal E y z pc ls (st.take (m_na z)).reverse (st.drop (m_na z)) w h)
def rOK (t : Option FieldType) (x : Int32) : Prop := t = some .int ∨ (t = some .boolean ∧ (x = 0 ∨ x = 1))
def rOKD (t : Option FieldType) (x : Int32) : Decidable (rOK t x) := inferInstanceAs (Decidable (t = some .int ∨ (t = some .boolean ∧ (x = 0 ∨ x = 1))))
def putI (y : ME) (w : WS) (h : HS) (ci k a : Nat) (v : Value) (kk : HS → RS) : RS :=
  gd (gtg ci k < 10 ∨ (m_in y = 1 ∧ m_oc y = ci)) (gd (w.1 a = (ci, 0) ∧ k < nfOf ci) (
    if gtg ci k % 10 = 0 then asI v fun x => kk (u2 h.1 a k x, h.2.1, h.2.2)
    else if gtg ci k % 10 = 1 then asI v fun x => gd (x = 0 ∨ x = 1) (kk (u2 h.1 a k x, h.2.1, h.2.2))
    else if gtg ci k % 10 = 2 then asL v fun x => kk (h.1, h.2.1, u2 h.2.2 a k x)
    else if gtg ci k % 10 = 3 then asR v fun x => kk (h.1, u2 h.2.1 a k (some x), h.2.2)
    else none))
def inv (E : EX) (y : ME) (pc : Nat) (ls st : List Value) (w : WS) (h : HS) (op : Nat) (i : Nat) : RS :=
  match cRes (m_oc y) i with
  | some (kd, id, _) =>
    if kd = 0 then gd (op = 0) (match mtL[id]? with | some z => calV E y z pc ls st w h | none => none)
    else if kd = 1 then gd (op = 2) (match mtL[id]? with | some z => calS E y z pc ls st w h | none => none)
    else if kd = 2 then gd (op = 2) (match mtL[id]? with | some z => calS E y z pc ls st w h | none => none)
    else if kd = 3 then gd (op = 1) (match mtL[id]? with | some z => calV E y z pc ls st w h | none => none)
    else if kd = 4 then gd (op = 1 ∧ 1 ≤ m_dp y) (popR st fun _ t => gd (t.length ≤ 4) (E y (pc + 3) ls t w h))
    else if kd = 5 then gd (op = 2 ∧ 1 ≤ m_dp y) (popI st fun b t => popI t fun a t => gd (t.length ≤ 4) (E y (pc + 3) ls (.int (if a < b then b else a) :: t) w h))
    else if kd = 6 then gd (op = 2 ∧ 1 ≤ m_dp y) (popI st fun b t => popI t fun a t => gd (t.length ≤ 4) (E y (pc + 3) ls (.int (if b < a then b else a) :: t) w h))
    else if kd = 7 then gd (op = 2 ∧ 1 ≤ m_dp y) (popI st fun n t => popI t fun dp t => popR t fun a1 t => popI t fun sp t => popR t fun a0 t =>
      gd (t.length ≤ 4 ∧ a0 ≠ 0 ∧ a1 ≠ 0 ∧ (w.1 a0).1 = 20 ∧ (w.1 a1).1 = 20 ∧ ¬ sp < 0 ∧ ¬ dp < 0 ∧ ¬ n < 0 ∧ sp.toNatClampNeg + n.toNatClampNeg ≤ (w.1 a0).2 ∧ dp.toNatClampNeg + n.toNatClampNeg ≤ (w.1 a1).2)
        (E y (pc + 3) ls t w (uA h.1 a1 (va_cpy (h.1 a0) (h.1 a1) sp.toNatClampNeg dp.toNatClampNeg n.toNatClampNeg), h.2.1, h.2.2)))
    else none
  | none => none
/-- one instruction -/
def stq (E : EX) (y : ME) (pc : Nat) (ls st : List Value) (w : WS) (h : HS) (i : Instr) : RS :=
  match i with
  | .iconst n => E y (pc + 1) ls (.int (Int32.ofInt n) :: st) w h
  | .bipush n => E y (pc + 2) ls (.int (Int8.ofInt n).toInt32 :: st) w h
  | .sipush n => E y (pc + 3) ls (.int (Int16.ofInt n).toInt32 :: st) w h
  | .ldc2_w i => match kRes (m_oc y) i with | some (v, _) => E y (pc + 3) ls (.long v :: st) w h | none => none
  | .iload_n k => asI (ls.getD k.val .null) fun x => E y (pc + 1) ls (.int x :: st) w h
  | .iload k => asI (ls.getD k .null) fun x => E y (pc + 2) ls (.int x :: st) w h
  | .lload_n k => asL (ls.getD k.val .null) fun x => E y (pc + 1) ls (.long x :: st) w h
  | .lload k => asL (ls.getD k .null) fun x => E y (pc + 2) ls (.long x :: st) w h
  | .aload_n k => asR (ls.getD k.val .null) fun x => E y (pc + 1) ls (.ref x :: st) w h
  | .aload k => asR (ls.getD k .null) fun x => E y (pc + 2) ls (.ref x :: st) w h
  | .istore_n k => popI st fun x t => stI ls k.val (.int x) fun ls => E y (pc + 1) ls t w h
  | .istore k => popI st fun x t => stI ls k (.int x) fun ls => E y (pc + 2) ls t w h
  | .lstore_n k => popL st fun x t => stL ls k.val (.long x) fun ls => E y (pc + 1) ls t w h
  | .lstore k => popL st fun x t => stL ls k (.long x) fun ls => E y (pc + 2) ls t w h
  | .astore_n k => popR st fun x t => stI ls k.val (.ref x) fun ls => E y (pc + 1) ls t w h
  | .astore k => popR st fun x t => stI ls k (.ref x) fun ls => E y (pc + 2) ls t w h
  | .iinc k n => asI (ls.getD k .null) fun x => stI ls k (.int (x + Int32.ofInt n)) fun ls => E y (pc + 3) ls st w h
  | .iadd => popI st fun b t => popI t fun a t => E y (pc + 1) ls (.int (a + b) :: t) w h
  | .isub => popI st fun b t => popI t fun a t => E y (pc + 1) ls (.int (a - b) :: t) w h
  | .imul => popI st fun b t => popI t fun a t => E y (pc + 1) ls (.int (a * b) :: t) w h
  | .iand => popI st fun b t => popI t fun a t => E y (pc + 1) ls (.int (a &&& b) :: t) w h
  | .ior => popI st fun b t => popI t fun a t => E y (pc + 1) ls (.int (a ||| b) :: t) w h
  | .ishl => popI st fun b t => popI t fun a t => E y (pc + 1) ls (.int (a <<< (b &&& 31)) :: t) w h
  | .ishr => popI st fun b t => popI t fun a t => E y (pc + 1) ls (.int (a >>> (b &&& 31)) :: t) w h
  | .ladd => popL st fun b t => popL t fun a t => E y (pc + 1) ls (.long (a + b) :: t) w h
  | .lmul => popL st fun b t => popL t fun a t => E y (pc + 1) ls (.long (a * b) :: t) w h
  | .lcmp => popL st fun b t => popL t fun a t => E y (pc + 1) ls (.int (lg_cmp a b) :: t) w h
  | .i2l => popI st fun x t => E y (pc + 1) ls (.long x.toInt64 :: t) w h
  | .dup => pop1 st fun v t => gd (v.category = 1) (E y (pc + 1) ls (v :: v :: t) w h)
  | .dup2 => pop1 st fun v t => pop1 t fun u t => gd (v.category = 1 ∧ u.category = 1) (E y (pc + 1) ls (v :: u :: v :: u :: t) w h)
  | .pop => pop1 st fun v t => gd (v.category = 1) (E y (pc + 1) ls t w h)
  | .goto off => jmp pc off fun q => E y q ls st w h
  | .ifCond c off => popI st fun x t => jmp pc off fun q => brc (cnd c x 0) (cndD c x 0) (E y q ls t w h) (E y (pc + 3) ls t w h)
  | .if_icmp c off => popI st fun b t => popI t fun a t => jmp pc off fun q => brc (cnd c a b) (cndD c a b) (E y q ls t w h) (E y (pc + 3) ls t w h)
  | .tableswitch d lo hi offs => popI st fun x t => brc (x.toInt < lo ∨ hi < x.toInt) inferInstance (jmp pc d fun q => E y q ls t w h) (match offs[(x.toInt - lo).toNat]? with | some off => jmp pc off fun q => E y q ls t w h | none => none)
  | .lookupswitch d ps => popI st fun x t => gd ((ps.toList.zip (ps.toList.drop 1)).all (fun (a, next) => a.1 < next.1) = true) (jmp pc (Op.lookupswitch.offset ps.toList d x.toInt) fun q => E y q ls t w h)
  | .getfield i => match fRes (m_oc y) i with | some (ci, k, _) => popR st fun a t => gd (w.1 a = (ci, 0) ∧ k < nfOf ci) (E y (pc + 3) ls (rdF h (gtg ci k) a k :: t) w h) | none => none
  | .putfield i => match fRes (m_oc y) i with | some (ci, k, _) => pop1 st fun v t => popR t fun a t => putI y w h ci k a v fun h => E y (pc + 3) ls t w h | none => none
  | .iaload => popI st fun i t => popR t fun a t => gd ((w.1 a).1 = 20) (gdv i (w.1 a).2 (E y (pc + 1) ls (.int (h.1 a i.toNatClampNeg) :: t) w h))
  | .iastore => popI st fun x t => popI t fun i t => popR t fun a t => gd ((w.1 a).1 = 20 ∧ a ≠ 0) (gdv i (w.1 a).2 (E y (pc + 1) ls t w (u2 h.1 a i.toNatClampNeg x, h.2.1, h.2.2)))
  | .aaload => popI st fun i t => popR t fun a t => gd ((w.1 a).1 = 21 ∨ (w.1 a).1 = 22 ∨ (w.1 a).1 = 23) (gdv i (w.1 a).2 (E y (pc + 1) ls (va_rf (h.2.1 a i.toNatClampNeg) :: t) w h))
  | .aastore => popR st fun x t => popI t fun i t => popR t fun a t => gd (((w.1 a).1 = 21 ∨ (w.1 a).1 = 22 ∨ (w.1 a).1 = 23) ∧ w.1 x = (clOf ((w.1 a).1 - 20), 0)) (gdv i (w.1 a).2 (E y (pc + 1) ls t w (h.1, u2 h.2.1 a i.toNatClampNeg (some x), h.2.2)))
  | .arraylength => popR st fun a t => gd ((w.1 a).1 = 20 ∨ (w.1 a).1 = 21 ∨ (w.1 a).1 = 22 ∨ (w.1 a).1 = 23) (E y (pc + 1) ls (.int (nI (w.1 a).2) :: t) w h)
  | .new i => match nRes (m_oc y) i with | some (ci, _) => E y (pc + 3) ls (.ref (w.2.1 + 1) :: st) (alc w (ci, 0) (nfOf ci)) h | none => none
  | .newarray .int => popI st fun n t => gd (¬ n < 0 ∧ n.toNatClampNeg ≤ 5000) (E y (pc + 2) ls (.ref (w.2.1 + 1) :: t) (alc w (20, n.toNatClampNeg) n.toNatClampNeg) h)
  | .anewarray i => match nRes (m_oc y) i with | some (ci, _) => popI st fun n t => gd (¬ n < 0 ∧ n.toNatClampNeg ≤ 5000 ∧ kdOf ci ≠ 0) (E y (pc + 3) ls (.ref (w.2.1 + 1) :: t) (alc w (20 + kdOf ci, n.toNatClampNeg) n.toNatClampNeg) h) | none => none
  | .invokevirtual i => inv E y pc ls st w h 0 i
  | .invokespecial i => inv E y pc ls st w h 1 i
  | .invokestatic i => inv E y pc ls st w h 2 i
  | .ireturn => match st with | [.int x] => @ite _ (rOK (m_rt y) x) (rOKD (m_rt y) x) (some (some (.int x), w, h)) none | _ => none
  | .lreturn => match st with | [.long x] => gd (m_rt y = some .long) (some (some (.long x), w, h)) | _ => none
  | .return_ => match st with | [] => gd (m_rt y = none) (some (none, w, h)) | _ => none
  | _ => none
/-- how long an instruction is; 0: a switch, any -/
def iln (i : Instr) : Nat := match i with
  | .iconst _ => 1 | .bipush _ => 2 | .sipush _ => 3 | .ldc2_w _ => 3
  | .iload_n _ => 1 | .iload _ => 2 | .lload_n _ => 1 | .lload _ => 2 | .aload_n _ => 1 | .aload _ => 2
  | .istore_n _ => 1 | .istore _ => 2 | .lstore_n _ => 1 | .lstore _ => 2 | .astore_n _ => 1 | .astore _ => 2
  | .iinc _ _ => 3 | .goto _ => 3 | .ifCond _ _ => 3 | .if_icmp _ _ => 3
  | .tableswitch _ _ _ _ => 0 | .lookupswitch _ _ => 0
  | .getfield _ => 3 | .putfield _ => 3 | .new _ => 3 | .newarray _ => 2 | .anewarray _ => 3
  | .invokevirtual _ => 3 | .invokespecial _ => 3 | .invokestatic _ => 3
  | _ => 1
def stp (E : EX) (y : ME) (pc : Nat) (ls st : List Value) (w : WS) (h : HS) : RS :=
  match decode (m_bc y) pc with
  | .ok (i, len) => gd (iln i = 0 ∨ len = iln i) (stq E y pc ls st w h i)
  | _ => none
def xc : Nat → EX
  | 0 => fun _ _ _ _ _ _ => none
  | n + 1 => stp (xc n)
