/-! ONE STEP of a method over a world, as a Prop: what must hold so that the method goes on -/
def ilen : Instr → Nat
  | .bipush _ => 2
  | .sipush _ => 3
  | .ldc _ => 2
  | .ldc_w _ => 3
  | .ldc2_w _ => 3
  | .iload _ => 2
  | .lload _ => 2
  | .istore _ => 2
  | .lstore _ => 2
  | .iinc _ _ => 3
  | .if_icmp _ _ => 3
  | .ifCond _ _ => 3
  | .goto _ => 3
  | .getfield _ => 3
  | .putfield _ => 3
  | .getstatic _ => 3
  | .new _ => 3
  | .newarray _ => 2
  | .anewarray _ => 3
  | .invokevirtual _ => 3
  | .invokespecial _ => 3
  | .invokestatic _ => 3
  | _ => 1
def isSw : Instr → Bool
  | .tableswitch .. => true
  | .lookupswitch .. => true
  | _ => false
def iaux (pc : Nat) : Instr → Nat × Int32
  | .iload_n k => (k, 0)
  | .lload_n k => (k, 0)
  | .aload_n k => (k, 0)
  | .istore_n k => (k, 0)
  | .lstore_n k => (k, 0)
  | .astore_n k => (k, 0)
  | .iload k => (k, 0)
  | .lload k => (k, 0)
  | .istore k => (k, 0)
  | .lstore k => (k, 0)
  | .iinc k v => (k, Int32.ofInt v)
  | .iconst v => (0, Int32.ofInt v)
  | .bipush v => (0, (Int8.ofInt v).toInt32)
  | .sipush v => (0, (Int16.ofInt v).toInt32)
  | .if_icmp _ off => (((pc : Int) + off).toNat, 0)
  | .ifCond _ off => (((pc : Int) + off).toNat, 0)
  | .goto off => (((pc : Int) + off).toNat, 0)
  | _ => (0, 0)
def ifwd (pc : Nat) : Instr → Bool
  | .if_icmp _ off => decide (0 ≤ (pc : Int) + off)
  | .ifCond _ off => decide (0 ≤ (pc : Int) + off)
  | .goto off => decide (0 ≤ (pc : Int) + off)
  | _ => true
abbrev Dc : Type := Instr × Nat × Nat × Int32
def dec (cc : ByteArray) (pc : Nat) : Option Dc := match decode cc pc with
  | .ok (i, len) => if (isSw i || decide (len = ilen i)) && ifwd pc i then some (i, pc + len, (iaux pc i).1, (iaux pc i).2) else none
  | .error _ => none
theorem dec_of {cc : ByteArray} {pc : Nat} {i : Instr} {nx ax : Nat} {v : Int32} (h : dec cc pc = some (i, nx, ax, v)) : ∃ len, decode cc pc = .ok (i, len) ∧ (isSw i = true ∨ len = ilen i) ∧ ifwd pc i = true ∧ nx = pc + len ∧ ax = (iaux pc i).1 ∧ v = (iaux pc i).2 := by
  unfold dec at h
  cases hd : decode cc pc with
  | error e => rw [hd] at h; cases h
  | ok q =>
    obtain ⟨j, len⟩ := q
    rw [hd] at h
    dsimp only at h
    by_cases hc : ((isSw j || decide (len = ilen j)) && ifwd pc j) = true
    · rw [if_pos hc] at h
      cases h
      rw [Bool.and_eq_true, Bool.or_eq_true, decide_eq_true_eq] at hc
      exact ⟨len, rfl, hc.1, hc.2, rfl, rfl, rfl⟩
    · rw [if_neg hc] at h
      cases h
def swT (ins : Instr) (pc : Nat) (x : Int32) : Option Nat := match ins with
  | .tableswitch df lo hi offs => (if x.toInt < lo ∨ hi < x.toInt then some df else offs[(x.toInt - lo).toNat]?).bind fun off => if 0 ≤ (pc : Int) + off then some ((pc : Int) + off).toNat else none
  | .lookupswitch df ps => if (ps.toList.zip (ps.toList.drop 1)).all (fun (a, next) => a.1 < next.1) = true then (if 0 ≤ (pc : Int) + Op.lookupswitch.offset ps.toList df x.toInt then some ((pc : Int) + Op.lookupswitch.offset ps.toList df x.toInt).toNat else none) else none
  | _ => none
-- what a value, a cell is
def isI : Option Value → Prop
  | some (.int _) => True
  | _ => False
def isJ : Option Value → Prop
  | some (.long _) => True
  | _ => False
def isA : Option Value → Prop
  | some (.ref _) => True
  | _ => False
def vI : Option Value → Value
  | some v => v
  | none => .null
def nI32 : Option Value → Int32
  | some (.int x) => x
  | _ => 0
def isF : Option En → Nat → Nat → Prop
  | some (.inr (.inr (c, fs))), ci, k => c = ci ∧ k < fs.length
  | _, _, _ => False
def gF : Option En → Nat → Value
  | some (.inr (.inr (_, fs))), k => vI fs[k]?
  | _, _ => .null
def sF : Option En → Nat → Value → Option En
  | some (.inr (.inr (c, fs))), k, v => some (.inr (.inr (c, fs.set k v)))
  | e, _, _ => e
def isO : Option En → Nat → Prop
  | some (.inr (.inr (c, _))), ci => c = ci
  | _, _ => False
def isP : Option En → Nat → Int32 → Prop
  | some (.inl ((q, len), _)), k, i => q = k ∧ vp_in i len
  | _, _, _ => False
def isP0 : Option En → Int32 → Prop
  | some (.inl ((q, len), _)), i => (q = 0 ∨ q = 4) ∧ vp_in i len
  | _, _ => False
def gE : Option En → Nat → Int32
  | some (.inl (_, f)), j => f j
  | _, _ => 0
def sE : Option En → Nat → Int32 → Option En
  | some (.inl (h, f)), j, x => some (.inl (h, upd f j x))
  | e, _, _ => e
def isR : Option En → Int32 → Prop
  | some (.inr (.inl (len, _))), i => vp_in i len
  | _, _ => False
def gO : Option En → Nat → Option Nat
  | some (.inr (.inl (_, g))), j => g j
  | _, _ => none
def sO : Option En → Nat → Nat → Option En
  | some (.inr (.inl (len, g))), j, v => some (.inr (.inl (len, va_up g j (some v))))
  | e, _, _ => e
def isS : Option Nat → Prop
  | some _ => True
  | none => False
def vS : Option Nat → Nat
  | some v => v
  | none => 0
def isSc : Option En → Prop
  | some (.inl ((4, _), _)) => True
  | _ => False
def nSc : Option En → Int32
  | some (.inl ((_, len), _)) => Int32.ofNat len
  | _ => 0
def ftC (ci k : Nat) : FieldType := match ci with
  | 0 => tyX0 k
  | 1 => tyX1 k
  | 2 => tyX2 k
  | 3 => tyX3 k
  | 4 => tyX4 k
  | 5 => tyX5 k
  | _ => tyX6 k
def pok (ty : FieldType) (v : Value) : Prop := narrow ty v = v ∧ fits ty v = true
def fnC (ci k : Nat) : Bool := match vwCl[ci]? with
  | some q => (q.2.1 k).2.2.2
  | none => true
def dfl : Nat → List Value
  | 0 => [.null, .null, .null, .null, .int 0, .int 0, .int 0, .int 0, .int 0, .int 0, .int 0]
  | 1 => [.null, .int 0, .int 0]
  | 2 => [.null, .int 0, .int 0]
  | 3 => [.null, .int 0, .int 0, .int 0, .int 0, .int 0, .int 0, .int 0]
  | 4 => [.null, .null]
  | 5 => [.null, .null, .null, .null, .null, .int 0, .int 0]
  | 6 => [.null, .null, .null, .null, .null]
  | _ => [.null, .null, .null, .int 0, .null, .null, .null, .int 0, .int 0, .null, .int 0]
def akd : ArrayType → Nat
  | .int => 0
  | .boolean => 1
  | .char => 2
  | _ => 9
-- the stack's shapes
def s1I (st : List Value) (f : Int32 → List Value → Prop) : Prop := match st with
  | .int a :: r => f a r
  | _ => False
def s2I (st : List Value) (f : Int32 → Int32 → List Value → Prop) : Prop := match st with
  | .int b :: .int a :: r => f a b r
  | _ => False
def s1J (st : List Value) (f : Int64 → List Value → Prop) : Prop := match st with
  | .long a :: r => f a r
  | _ => False
def s2J (st : List Value) (f : Int64 → Int64 → List Value → Prop) : Prop := match st with
  | .long b :: .long a :: r => f a b r
  | _ => False
def sJI (st : List Value) (f : Int64 → Int32 → List Value → Prop) : Prop := match st with
  | .int b :: .long a :: r => f a b r
  | _ => False
def s1A (st : List Value) (f : Nat → List Value → Prop) : Prop := match st with
  | .ref a :: r => f a r
  | _ => False
def sVA (st : List Value) (f : Nat → Value → List Value → Prop) : Prop := match st with
  | v :: .ref a :: r => f a v r
  | _ => False
def sAI (st : List Value) (f : Nat → Int32 → List Value → Prop) : Prop := match st with
  | .int i :: .ref a :: r => f a i r
  | _ => False
def sAII (st : List Value) (f : Nat → Int32 → Int32 → List Value → Prop) : Prop := match st with
  | .int x :: .int i :: .ref a :: r => f a i x r
  | _ => False
def sAIA (st : List Value) (f : Nat → Int32 → Nat → List Value → Prop) : Prop := match st with
  | .ref v :: .int i :: .ref a :: r => f a i v r
  | _ => False
def sCpy (st : List Value) (f : Nat → Int32 → Nat → Int32 → Int32 → List Value → Prop) : Prop := match st with
  | .int n :: .int dp :: .ref b :: .int sp :: .ref a :: r => f a sp b dp n r
  | _ => False
theorem s1I_inv {st : List Value} {f : Int32 → List Value → Prop} (h : s1I st f) : ∃ a r, st = .int a :: r ∧ f a r := by
  unfold s1I at h
  split at h
  · exact ⟨_, _, rfl, h⟩
  · exact h.elim
theorem s2I_inv {st : List Value} {f : Int32 → Int32 → List Value → Prop} (h : s2I st f) : ∃ a b r, st = .int b :: .int a :: r ∧ f a b r := by
  unfold s2I at h
  split at h
  · exact ⟨_, _, _, rfl, h⟩
  · exact h.elim
theorem s1J_inv {st : List Value} {f : Int64 → List Value → Prop} (h : s1J st f) : ∃ a r, st = .long a :: r ∧ f a r := by
  unfold s1J at h
  split at h
  · exact ⟨_, _, rfl, h⟩
  · exact h.elim
theorem s2J_inv {st : List Value} {f : Int64 → Int64 → List Value → Prop} (h : s2J st f) : ∃ a b r, st = .long b :: .long a :: r ∧ f a b r := by
  unfold s2J at h
  split at h
  · exact ⟨_, _, _, rfl, h⟩
  · exact h.elim
theorem sJI_inv {st : List Value} {f : Int64 → Int32 → List Value → Prop} (h : sJI st f) : ∃ a b r, st = .int b :: .long a :: r ∧ f a b r := by
  unfold sJI at h
  split at h
  · exact ⟨_, _, _, rfl, h⟩
  · exact h.elim
theorem s1A_inv {st : List Value} {f : Nat → List Value → Prop} (h : s1A st f) : ∃ a r, st = .ref a :: r ∧ f a r := by
  unfold s1A at h
  split at h
  · exact ⟨_, _, rfl, h⟩
  · exact h.elim
theorem sVA_inv {st : List Value} {f : Nat → Value → List Value → Prop} (h : sVA st f) : ∃ a v r, st = v :: .ref a :: r ∧ f a v r := by
  unfold sVA at h
  split at h
  · exact ⟨_, _, _, rfl, h⟩
  · exact h.elim
theorem sAI_inv {st : List Value} {f : Nat → Int32 → List Value → Prop} (h : sAI st f) : ∃ a i r, st = .int i :: .ref a :: r ∧ f a i r := by
  unfold sAI at h
  split at h
  · exact ⟨_, _, _, rfl, h⟩
  · exact h.elim
theorem sAII_inv {st : List Value} {f : Nat → Int32 → Int32 → List Value → Prop} (h : sAII st f) : ∃ a i x r, st = .int x :: .int i :: .ref a :: r ∧ f a i x r := by
  unfold sAII at h
  split at h
  · exact ⟨_, _, _, _, rfl, h⟩
  · exact h.elim
theorem sAIA_inv {st : List Value} {f : Nat → Int32 → Nat → List Value → Prop} (h : sAIA st f) : ∃ a i v r, st = .ref v :: .int i :: .ref a :: r ∧ f a i v r := by
  unfold sAIA at h
  split at h
  · exact ⟨_, _, _, _, rfl, h⟩
  · exact h.elim
theorem sCpy_inv {st : List Value} {f : Nat → Int32 → Nat → Int32 → Int32 → List Value → Prop} (h : sCpy st f) : ∃ a sp b dp n r, st = .int n :: .int dp :: .ref b :: .int sp :: .ref a :: r ∧ f a sp b dp n r := by
  unfold sCpy at h
  split at h
  · exact ⟨_, _, _, _, _, _, rfl, h⟩
  · exact h.elim
abbrev Kt : Type := Nat → List Value → List Value → Nat → Wd → Prop
def icm (c : ClassFile.Cond) (x y : Int32) (A B : Prop) : Prop := match c with
  | .eq => (x = y → A) ∧ (¬ x = y → B)
  | .ne => (¬ x = y → A) ∧ (x = y → B)
  | .lt => (x < y → A) ∧ (¬ x < y → B)
  | .ge => (y ≤ x → A) ∧ (¬ y ≤ x → B)
  | .gt => (y < x → A) ∧ (¬ y < x → B)
  | .le => (x ≤ y → A) ∧ (¬ x ≤ y → B)
def isCp : Option En → Option En → Int32 → Int32 → Int32 → Prop
  | some (.inl ((k0, n0), _)), some (.inl ((k1, n1), _)), sp, dp, n => (k0 = 0 ∨ k0 = 4) ∧ k1 = 0 ∧ ¬ sp < 0 ∧ ¬ dp < 0 ∧ ¬ n < 0 ∧ sp.toNatClampNeg + n.toNatClampNeg ≤ n0 ∧ dp.toNatClampNeg + n.toNatClampNeg ≤ n1
  | _, _, _, _, _ => False
def cpE : Option En → Option En → Int32 → Int32 → Int32 → Option En
  | some (.inl (_, f)), some (.inl (h, g)), sp, dp, n => some (.inl (h, va_cpy f g sp.toNatClampNeg dp.toNatClampNeg n.toNatClampNeg))
  | _, e, _, _, _ => e
def isRc (w : Wd) (mi : Nat) : List Value → Prop
  | .ref a :: _ => isO (w a) (mr mi).2.2.2.2
  | _ => False
def kkd : Nat → Option (Nat × Nat × Nat) → Prop
  | 0, some (_, kd, _) => kd = 2 ∨ kd = 3 ∨ kd = 9
  | 1, some (_, kd, _) => kd = 4 ∨ kd = 5
  | _, some (_, kd, _) => kd = 0 ∨ kd = 1 ∨ kd = 10 ∨ kd = 11 ∨ kd = 12
  | _, none => False
def ivk (G : Gx) (d nm : Nat) (J K : Kt) (e : Option (Nat × Nat × Nat)) (nx : Nat) (L st : List Value) (n : Nat) (w : Wd) : Prop := match e with
  | none => False
  | some (mi, kd, na) =>
    if kd = 9 then s1A st fun _ r => r.length ≤ 4 ∧ K nx L r n w
    else if kd = 10 then sCpy st fun a sp b dp m r => r.length ≤ 4 ∧ isCp (w a) (w b) sp dp m ∧ K nx L r n (va_up w b (cpE (w a) (w b) sp dp m))
    else if kd = 11 then s2I st fun a b r => r.length ≤ 4 ∧ K nx L (.int (if a < b then b else a) :: r) n w
    else if kd = 12 then s2I st fun a b r => r.length ≤ 4 ∧ K nx L (.int (if b < a then b else a) :: r) n w
    else na ≤ st.length ∧ (st.drop na).length ≤ 4 ∧ (1 < kd → isRc w mi (st.take na).reverse) ∧ ∃ k, n + k ≤ nm ∧ T G d k mi (st.take na).reverse n w (fun r w' => J nx L (r.toList ++ st.drop na) (n + k) w')
/-- one step -/
def stp (G : Gx) (o : Nat) (ini : Bool) (mL : Nat) (rt : Option FieldType) (d nm : Nat) (J K : Kt) (Rt : Option Value → Nat → Wd → Prop) (pc : Nat) (i : Option Dc) (L st : List Value) (n : Nat) (w : Wd) : Prop := match i with
  | none => False
  | some (ins, nx, ax, v) => match ins with
    | .iconst _ => K nx L (.int v :: st) n w
    | .bipush _ => K nx L (.int v :: st) n w
    | .sipush _ => K nx L (.int v :: st) n w
    | .lconst a => K nx L (.long (Int64.ofNat (a : Nat)) :: st) n w
    | .ldc idx => match rI o idx with
      | some c => K nx L (.int c :: st) n w
      | none => False
    | .ldc_w idx => match rI o idx with
      | some c => K nx L (.int c :: st) n w
      | none => False
    | .ldc2_w idx => match rJ o idx with
      | some c => K nx L (.long c :: st) n w
      | none => False
    | .iload _ => isI L[ax]? ∧ K nx L (vI L[ax]? :: st) n w
    | .iload_n _ => isI L[ax]? ∧ K nx L (vI L[ax]? :: st) n w
    | .lload _ => isJ L[ax]? ∧ K nx L (vI L[ax]? :: st) n w
    | .lload_n _ => isJ L[ax]? ∧ K nx L (vI L[ax]? :: st) n w
    | .aload_n _ => isA L[ax]? ∧ K nx L (vI L[ax]? :: st) n w
    | .istore _ => s1I st fun x r => ax < mL ∧ K nx (sto ax (.int x) L) r n w
    | .istore_n _ => s1I st fun x r => ax < mL ∧ K nx (sto ax (.int x) L) r n w
    | .lstore _ => s1J st fun x r => ax + 1 < mL ∧ K nx (sto ax (.long x) (sto (ax + 1) .null L)) r n w
    | .lstore_n _ => s1J st fun x r => ax + 1 < mL ∧ K nx (sto ax (.long x) (sto (ax + 1) .null L)) r n w
    | .astore_n _ => s1A st fun x r => ax < mL ∧ K nx (sto ax (.ref x) L) r n w
    | .iinc _ _ => isI L[ax]? ∧ ax < mL ∧ K nx (sto ax (.int (nI32 L[ax]? + v)) L) st n w
    | .iadd => s2I st fun a b r => K nx L (.int (a + b) :: r) n w
    | .ineg => s1I st fun a r => K nx L (.int (-a) :: r) n w
    | .ishr => s2I st fun a b r => K nx L (.int (a >>> (b &&& 31)) :: r) n w
    | .ladd => s2J st fun a b r => K nx L (.long (a + b) :: r) n w
    | .lmul => s2J st fun a b r => K nx L (.long (a * b) :: r) n w
    | .isub => s2I st fun a b r => K nx L (.int (a - b) :: r) n w
    | .imul => s2I st fun a b r => K nx L (.int (a * b) :: r) n w
    | .idiv => s2I st fun a b r => ¬ b = 0 ∧ K nx L (.int (a / b) :: r) n w
    | .irem => s2I st fun a b r => ¬ b = 0 ∧ K nx L (.int (a - a / b * b) :: r) n w
    | .iand => s2I st fun a b r => K nx L (.int (a &&& b) :: r) n w
    | .ior => s2I st fun a b r => K nx L (.int (a ||| b) :: r) n w
    | .ishl => s2I st fun a b r => K nx L (.int (a <<< (b &&& 31)) :: r) n w
    | .iushr => s2I st fun a b r => K nx L (.int (a.toUInt32 >>> (b.toUInt32 &&& Int32.toUInt32 31)).toInt32 :: r) n w
    | .land => s2J st fun a b r => K nx L (.long (a &&& b) :: r) n w
    | .lor => s2J st fun a b r => K nx L (.long (a ||| b) :: r) n w
    | .lcmp => s2J st fun a b r => K nx L (.int (lg_cmp a b) :: r) n w
    | .lushr => sJI st fun a b r => K nx L (.long (a.toUInt64 >>> (b.toInt64.toUInt64 &&& Int64.toUInt64 63)).toInt64 :: r) n w
    | .lshl => sJI st fun a b r => K nx L (.long (a <<< (b.toInt64 &&& 63)) :: r) n w
    | .i2l => s1I st fun a r => K nx L (.long a.toInt64 :: r) n w
    | .l2i => s1J st fun a r => K nx L (.int a.toInt32 :: r) n w
    | .i2c => s1I st fun a r => K nx L (.int (a.toUInt32 % 65536).toInt32 :: r) n w
    | .if_icmp c _ => s2I st fun a b r => icm c a b (K ax L r n w) (K nx L r n w)
    | .ifCond c _ => s1I st fun a r => icm c a 0 (K ax L r n w) (K nx L r n w)
    | .goto _ => K ax L st n w
    | .dup => match st with
      | v :: r => v.category = 1 ∧ K nx L (v :: v :: r) n w
      | _ => False
    | .dup2 => match st with
      | v :: u :: r => v.category = 1 ∧ u.category = 1 ∧ K nx L (v :: u :: v :: u :: r) n w
      | _ => False
    | .pop => match st with
      | v :: r => v.category = 1 ∧ K nx L r n w
      | _ => False
    | .tableswitch a b c e => s1I st fun x r => ∃ t, swT (.tableswitch a b c e) pc x = some t ∧ J t L r n w
    | .lookupswitch a b => s1I st fun x r => ∃ t, swT (.lookupswitch a b) pc x = some t ∧ J t L r n w
    | .getfield idx => match rF o idx with
      | some (ci, k, _) => s1A st fun a r => isF (w a) ci k ∧ K nx L (gF (w a) k :: r) n w
      | none => False
    | .putfield idx => match rF o idx with
      | some (ci, k, _) => sVA st fun a v r => isF (w a) ci k ∧ pok (ftC ci k) v ∧ (fnC ci k = true → ini = true ∧ ci = o) ∧ K nx L r n (va_up w a (sF (w a) k v))
      | none => False
    | .getstatic idx => match rS o idx with
      | some (j, _) => K nx L (.ref (1000 + j) :: st) n w
      | none => False
    | .iaload => sAI st fun a i r => isP0 (w a) i ∧ K nx L (.int (gE (w a) i.toNatClampNeg) :: r) n w
    | .baload => sAI st fun a i r => isP (w a) 1 i ∧ K nx L (.int (gE (w a) i.toNatClampNeg) :: r) n w
    | .caload => sAI st fun a i r => isP (w a) 2 i ∧ K nx L (.int (gE (w a) i.toNatClampNeg) :: r) n w
    | .iastore => sAII st fun a i x r => isP (w a) 0 i ∧ K nx L r n (va_up w a (sE (w a) i.toNatClampNeg x))
    | .bastore => sAII st fun a i x r => isP (w a) 1 i ∧ K nx L r n (va_up w a (sE (w a) i.toNatClampNeg (vp_nar .boolean x)))
    | .castore => sAII st fun a i x r => isP (w a) 2 i ∧ K nx L r n (va_up w a (sE (w a) i.toNatClampNeg (vp_nar .char x)))
    | .aaload => sAI st fun a i r => isR (w a) i ∧ isS (gO (w a) i.toNatClampNeg) ∧ K nx L (.ref (vS (gO (w a) i.toNatClampNeg)) :: r) n w
    | .aastore => sAIA st fun a i v r => isR (w a) i ∧ isO (w v) 0 ∧ K nx L r n (va_up w a (sO (w a) i.toNatClampNeg v))
    | .arraylength => s1A st fun a r => isSc (w a) ∧ K nx L (.int (nSc (w a)) :: r) n w
    | .new idx => match rC o idx with
      | some ci => n + 1 ≤ nm ∧ K nx L (.ref n :: st) (n + 1) (va_up w n (some (.inr (.inr (ci, dfl ci)))))
      | none => False
    | .newarray ty => s1I st fun x r => akd ty < 3 ∧ ¬ x < 0 ∧ x.toNatClampNeg ≤ 2000 ∧ n + 1 ≤ nm ∧ K nx L (.ref n :: r) (n + 1) (va_up w n (some (.inl ((akd ty, x.toNatClampNeg), fun _ => 0))))
    | .anewarray idx => s1I st fun x r => rC o idx = some 0 ∧ ¬ x < 0 ∧ x.toNatClampNeg ≤ 2000 ∧ n + 1 ≤ nm ∧ K nx L (.ref n :: r) (n + 1) (va_up w n (some (.inr (.inl (x.toNatClampNeg, fun _ => none)))))
    | .invokevirtual idx => kkd 1 (rM o idx) ∧ ivk G d nm J K (rM o idx) nx L st n w
    | .invokespecial idx => kkd 0 (rM o idx) ∧ ivk G d nm J K (rM o idx) nx L st n w
    | .invokestatic idx => kkd 2 (rM o idx) ∧ ivk G d nm J K (rM o idx) nx L st n w
    | .ireturn => s1I st fun x r => r = [] ∧ (∃ ty, rt = some ty ∧ narrow ty (.int x) = .int x) ∧ Rt (some (.int x)) n w
    | .lreturn => s1J st fun x r => r = [] ∧ rt = some .long ∧ Rt (some (.long x)) n w
    | .return_ => st = [] ∧ rt = none ∧ Rt none n w
    | _ => False
