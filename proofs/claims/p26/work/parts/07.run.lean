/-! FROM STEPS TO CONTRACTS -/
theorem T_of {G : Gx} {d k mi : Nat} {args : List Value} {n : Nat} {w : Wd} {Q : Option Value → Wd → Prop} {y : MethodName} {cc : ByteArray} {mL : Nat} {rt : Option FieldType} {o : Nat} (ini : Bool) (hm : mr mi = (y, cc, mL, rt, o)) (hpn : plainName y.cls = true) (ho : y.cls = nmO o)
    (hal : (args.flatMap fun v => if v.category = 2 then [v, .null] else [v]).length ≤ mL) (hmax : n + k ≤ 1000) (hini : ini = true → y.name = "<init>")
    (h : ∀ J : Kt, (∀ K : Kt, (∀ pc L st n' w', K pc L st n' w' → J pc L st n' w') → ∀ pc L st n' w', stp G o ini mL rt d (n + k) J K (fun r n' w' => n' = n + k ∧ Q r w') pc (dec cc pc) L st n' w' → J pc L st n' w') → J 0 (entL mL args) [] n w) : T G (d + 1) k mi args n w Q := by
  have e1 : (mr mi).1 = y := by rw [hm]
  have e2 : (mr mi).2.1 = cc := by rw [hm]
  have e3 : (mr mi).2.2.1 = mL := by rw [hm]
  have e4 : (mr mi).2.2.2.1 = rt := by rw [hm]
  unfold T
  refine Met.ofW (cc := cc) (maxL := mL) (ret := rt) (by rw [e1]; exact hpn) (by unfold wLs; rw [e1, e2, e3, e4]) ?_
  intro p e s m args' below meth c s₁ B hml hv
  obtain ⟨rfl, hC, hKn, hsz⟩ := hv
  have hx := B.exec
  have hb := B.bytes
  have hr := B.returns
  have hts := atoms_spec (ws := wLs mi) B.pre
  have hown := findClass_of_methodNamed B.named
  rw [e1, ho] at hown
  have hlocks := B.notSynchronized
  have hin : meth.name = y.name := by rw [← e1]; exact (name_of_methodNamed B.named B.method).1
  rw [lg_entry_eq]
  have hCx : Cx G p (headSpec (wLs mi) { frames := d + 1, cells := k, slots := 2000 * k, locals := 37 * (d + 1) }).room s m (args.map (gtv G)).toArray meth c cc o mL d n (n + k) ini :=
    ⟨hx, hb, hml, hown, fun w hw => hts w (List.mem_cons_of_mem _ hw), hKn, hsz, Nat.le_refl _, Nat.le_refl _, by show n + k - n ≤ k; omega, by show 2000 * (n + k - n) ≤ 2000 * k; omega, hmax, fun q => hin.trans (hini q)⟩
  have hRok : Rok G p e (headSpec (wLs mi) { frames := d + 1, cells := k, slots := 2000 * k, locals := 37 * (d + 1) }).room s m (args.map (gtv G)).toArray below meth c (MQ below (gQc G (n + k) Q) (args.map (gtv G)).toArray s k (2000 * k) (gA G)) cc n rt (fun r n' w' => n' = n + k ∧ Q r w') := by
    refine ⟨?_, ?_, ?_⟩
    · intro x ty n' w' pc H locs ls hd hrt hn hq hnn hCu hS
      obtain ⟨rfl, hq⟩ := hq
      rw [Nat.add_sub_cancel_left]
      exact W.zret hx hb (hr.trans hrt) hn (fun t ht hW => ⟨⟨some (.int x), w', rfl, hq, by rw [ht]; exact hCu⟩, hS.F ht⟩) hS.2.2 hd
    · intro n' w' pc H locs ls hd hrt hq hnn hCu hS
      obtain ⟨rfl, hq⟩ := hq
      rw [Nat.add_sub_cancel_left]
      exact W.vret hx hb (hr.trans hrt) (fun t ht hW => ⟨⟨none, w', rfl, hq, by rw [ht]; exact hCu⟩, hS.F ht⟩) hS.2.2 hd
    · intro x n' w' pc H locs ls hd hrt hq hnn hCu hS
      obtain ⟨rfl, hq⟩ := hq
      rw [Nat.add_sub_cancel_left]
      exact W.lret hx hb (hr.trans hrt) (fun t ht hW => ⟨⟨some (.long x), w', rfl, hq, by rw [ht]; exact hCu⟩, hS.F ht⟩) hS.2.2 hd
  have hJ := h (Jm G p e (headSpec (wLs mi) { frames := d + 1, cells := k, slots := 2000 * k, locals := 37 * (d + 1) }).room s m (args.map (gtv G)).toArray below meth c (MQ below (gQc G (n + k) Q) (args.map (gtv G)).toArray s k (2000 * k) (gA G)) mL n (n + k)) (fun K hK pc L st n' w' hs => snd hCx hRok hK hs)
  have hl0 : (entL mL args).length = mL := by
    unfold entL
    rw [List.length_append, List.length_replicate]
    omega
  have h1 := hJ ⟨Nat.le_refl _, Nat.le_add_right _ _⟩ hl0 s.heap [] _ hC va_S.rf (lvL_entry hal)
  rw [Nat.sub_self] at h1
  exact h1
/-- a run of steps up to the places S -/
def run (G : Gx) (o : Nat) (ini : Bool) (mL : Nat) (rt : Option FieldType) (d nm : Nat) (J : Kt) (Rt : Option Value → Nat → Wd → Prop) (cc : ByteArray) (S : Nat → Bool) : Nat → Kt
  | 0 => J
  | f + 1 => fun pc L st n w => if S pc = true then J pc L st n w else stp G o ini mL rt d nm J (run G o ini mL rt d nm J Rt cc S f) Rt pc (dec cc pc) L st n w
abbrev Clo (G : Gx) (o : Nat) (ini : Bool) (mL : Nat) (rt : Option FieldType) (d nm : Nat) (J : Kt) (Rt : Option Value → Nat → Wd → Prop) (cc : ByteArray) : Prop := ∀ K : Kt, (∀ pc L st n' w', K pc L st n' w' → J pc L st n' w') → ∀ pc L st n' w', stp G o ini mL rt d nm J K Rt pc (dec cc pc) L st n' w' → J pc L st n' w'
theorem run_ok {G : Gx} {o : Nat} {ini : Bool} {mL : Nat} {rt : Option FieldType} {d nm : Nat} {J : Kt} {Rt : Option Value → Nat → Wd → Prop} {cc : ByteArray} (hJ : Clo G o ini mL rt d nm J Rt cc) (S : Nat → Bool) : ∀ f pc L st n w, run G o ini mL rt d nm J Rt cc S f pc L st n w → J pc L st n w
  | 0, _, _, _, _, _, h => h
  | f + 1, pc, L, st, n, w, h => by
    unfold run at h
    by_cases hs : S pc = true
    · rw [if_pos hs] at h; exact h
    · rw [if_neg hs] at h
      exact hJ _ (run_ok hJ S f) _ _ _ _ _ h
/-- one step in any case, then a run -/
theorem go_ok {G : Gx} {o : Nat} {ini : Bool} {mL : Nat} {rt : Option FieldType} {d nm : Nat} {J : Kt} {Rt : Option Value → Nat → Wd → Prop} {cc : ByteArray} (hJ : Clo G o ini mL rt d nm J Rt cc) (S : Nat → Bool) (f : Nat) {pc : Nat} {L st : List Value} {n : Nat} {w : Wd} (h : stp G o ini mL rt d nm J (run G o ini mL rt d nm J Rt cc S f) Rt pc (dec cc pc) L st n w) : J pc L st n w := hJ _ (run_ok hJ S f) _ _ _ _ _ h
theorem T.mono {G : Gx} {d k mi : Nat} {args : List Value} {n : Nat} {w : Wd} {Q Q' : Option Value → Wd → Prop} (h : T G d k mi args n w Q) (hq : ∀ r w', Q r w' → Q' r w') : T G d k mi args n w Q' := by
  intro p e ha hc hk s m args0 below hf happ hP hT
  obtain ⟨kk, o, h1, h2, h3, h4, h5⟩ := h p e ha hc hk s m args0 below hf happ hP hT
  obtain ⟨⟨r, w', a, b, c⟩, h6⟩ := h4
  exact ⟨kk, o, h1, h2, h3, ⟨⟨r, w', a, hq r w' b, c⟩, h6⟩, h5⟩
theorem call0 {G : Gx} {d mi : Nat} {args : List Value} {n : Nat} {w : Wd} {Q : Nat → Option Value → Wd → Prop} (h : T G d 0 mi args n w (Q 0)) : ∃ k, n + k ≤ n ∧ T G d k mi args n w (Q k) := ⟨0, Nat.le_refl _, h⟩
-- the steps as equations
section EQS
variable {G : Gx} {o : Nat} {ini : Bool} {mL : Nat} {rt : Option FieldType} {d nm : Nat} {J K : Kt} {Rt : Option Value → Nat → Wd → Prop} {pc nx ax n : Nat} {v : Int32} {L st : List Value} {w : Wd} {a b i x : Int32} {p q : Int64} {r r2 : Nat} {u z : Value} {cc : ByteArray} {S : Nat → Bool} {f : Nat}
theorem s_iconst {k : Int} : stp G o ini mL rt d nm J K Rt pc (some (.iconst k, nx, ax, v)) L st n w = (K nx L (.int v :: st) n w) := rfl
theorem s_bipush {k : Int} : stp G o ini mL rt d nm J K Rt pc (some (.bipush k, nx, ax, v)) L st n w = (K nx L (.int v :: st) n w) := rfl
theorem s_sipush {k : Int} : stp G o ini mL rt d nm J K Rt pc (some (.sipush k, nx, ax, v)) L st n w = (K nx L (.int v :: st) n w) := rfl
theorem s_lconst {k : Fin 2} : stp G o ini mL rt d nm J K Rt pc (some (.lconst k, nx, ax, v)) L st n w = (K nx L (.long (Int64.ofNat (k : Nat)) :: st) n w) := rfl
theorem s_iload {k : Nat} : stp G o ini mL rt d nm J K Rt pc (some (.iload k, nx, ax, v)) L st n w = (isI L[ax]? ∧ K nx L (vI L[ax]? :: st) n w) := rfl
theorem s_iload_n {k : Fin 4} : stp G o ini mL rt d nm J K Rt pc (some (.iload_n k, nx, ax, v)) L st n w = (isI L[ax]? ∧ K nx L (vI L[ax]? :: st) n w) := rfl
theorem s_lload {k : Nat} : stp G o ini mL rt d nm J K Rt pc (some (.lload k, nx, ax, v)) L st n w = (isJ L[ax]? ∧ K nx L (vI L[ax]? :: st) n w) := rfl
theorem s_lload_n {k : Fin 4} : stp G o ini mL rt d nm J K Rt pc (some (.lload_n k, nx, ax, v)) L st n w = (isJ L[ax]? ∧ K nx L (vI L[ax]? :: st) n w) := rfl
theorem s_aload_n {k : Fin 4} : stp G o ini mL rt d nm J K Rt pc (some (.aload_n k, nx, ax, v)) L st n w = (isA L[ax]? ∧ K nx L (vI L[ax]? :: st) n w) := rfl
theorem s_istore {k : Nat} : stp G o ini mL rt d nm J K Rt pc (some (.istore k, nx, ax, v)) L (.int x :: st) n w = (ax < mL ∧ K nx (sto ax (.int x) L) st n w) := rfl
theorem s_istore_n {k : Fin 4} : stp G o ini mL rt d nm J K Rt pc (some (.istore_n k, nx, ax, v)) L (.int x :: st) n w = (ax < mL ∧ K nx (sto ax (.int x) L) st n w) := rfl
theorem s_lstore {k : Nat} : stp G o ini mL rt d nm J K Rt pc (some (.lstore k, nx, ax, v)) L (.long p :: st) n w = (ax + 1 < mL ∧ K nx (sto ax (.long p) (sto (ax + 1) .null L)) st n w) := rfl
theorem s_lstore_n {k : Fin 4} : stp G o ini mL rt d nm J K Rt pc (some (.lstore_n k, nx, ax, v)) L (.long p :: st) n w = (ax + 1 < mL ∧ K nx (sto ax (.long p) (sto (ax + 1) .null L)) st n w) := rfl
theorem s_astore_n {k : Fin 4} : stp G o ini mL rt d nm J K Rt pc (some (.astore_n k, nx, ax, v)) L (.ref r :: st) n w = (ax < mL ∧ K nx (sto ax (.ref r) L) st n w) := rfl
theorem s_iinc {k : Nat} {c : Int} : stp G o ini mL rt d nm J K Rt pc (some (.iinc k c, nx, ax, v)) L st n w = (isI L[ax]? ∧ ax < mL ∧ K nx (sto ax (.int (nI32 L[ax]? + v)) L) st n w) := rfl
theorem s_iadd : stp G o ini mL rt d nm J K Rt pc (some (.iadd, nx, ax, v)) L (.int b :: .int a :: st) n w = (K nx L (.int (a + b) :: st) n w) := rfl
theorem s_ineg : stp G o ini mL rt d nm J K Rt pc (some (.ineg, nx, ax, v)) L (.int a :: st) n w = (K nx L (.int (-a) :: st) n w) := rfl
theorem s_ishr : stp G o ini mL rt d nm J K Rt pc (some (.ishr, nx, ax, v)) L (.int b :: .int a :: st) n w = (K nx L (.int (a >>> (b &&& 31)) :: st) n w) := rfl
theorem s_ladd : stp G o ini mL rt d nm J K Rt pc (some (.ladd, nx, ax, v)) L (.long q :: .long p :: st) n w = (K nx L (.long (p + q) :: st) n w) := rfl
theorem s_lmul : stp G o ini mL rt d nm J K Rt pc (some (.lmul, nx, ax, v)) L (.long q :: .long p :: st) n w = (K nx L (.long (p * q) :: st) n w) := rfl
theorem s_ldc {idx : Nat} {c : Int32} (h : rI o idx = some c) : stp G o ini mL rt d nm J K Rt pc (some (.ldc idx, nx, ax, v)) L st n w = (K nx L (.int c :: st) n w) := by simp only [stp, h]
theorem s_lreturn : stp G o ini mL rt d nm J K Rt pc (some (.lreturn, nx, ax, v)) L [.long p] n w = (rt = some .long ∧ Rt (some (.long p)) n w) := by simp [stp, s1J]
theorem s_isub : stp G o ini mL rt d nm J K Rt pc (some (.isub, nx, ax, v)) L (.int b :: .int a :: st) n w = (K nx L (.int (a - b) :: st) n w) := rfl
theorem s_imul : stp G o ini mL rt d nm J K Rt pc (some (.imul, nx, ax, v)) L (.int b :: .int a :: st) n w = (K nx L (.int (a * b) :: st) n w) := rfl
theorem s_iand : stp G o ini mL rt d nm J K Rt pc (some (.iand, nx, ax, v)) L (.int b :: .int a :: st) n w = (K nx L (.int (a &&& b) :: st) n w) := rfl
theorem s_ior : stp G o ini mL rt d nm J K Rt pc (some (.ior, nx, ax, v)) L (.int b :: .int a :: st) n w = (K nx L (.int (a ||| b) :: st) n w) := rfl
theorem s_ishl : stp G o ini mL rt d nm J K Rt pc (some (.ishl, nx, ax, v)) L (.int b :: .int a :: st) n w = (K nx L (.int (a <<< (b &&& 31)) :: st) n w) := rfl
theorem s_iushr : stp G o ini mL rt d nm J K Rt pc (some (.iushr, nx, ax, v)) L (.int b :: .int a :: st) n w = (K nx L (.int ((a.toUInt32 >>> (b.toUInt32 &&& Int32.toUInt32 31)).toInt32) :: st) n w) := rfl
theorem s_idiv : stp G o ini mL rt d nm J K Rt pc (some (.idiv, nx, ax, v)) L (.int b :: .int a :: st) n w = (¬ b = 0 ∧ K nx L (.int (a / b) :: st) n w) := rfl
theorem s_irem : stp G o ini mL rt d nm J K Rt pc (some (.irem, nx, ax, v)) L (.int b :: .int a :: st) n w = (¬ b = 0 ∧ K nx L (.int (a - a / b * b) :: st) n w) := rfl
theorem s_land : stp G o ini mL rt d nm J K Rt pc (some (.land, nx, ax, v)) L (.long q :: .long p :: st) n w = (K nx L (.long (p &&& q) :: st) n w) := rfl
theorem s_lor : stp G o ini mL rt d nm J K Rt pc (some (.lor, nx, ax, v)) L (.long q :: .long p :: st) n w = (K nx L (.long (p ||| q) :: st) n w) := rfl
theorem s_lcmp : stp G o ini mL rt d nm J K Rt pc (some (.lcmp, nx, ax, v)) L (.long q :: .long p :: st) n w = (K nx L (.int (lg_cmp p q) :: st) n w) := rfl
theorem s_lushr : stp G o ini mL rt d nm J K Rt pc (some (.lushr, nx, ax, v)) L (.int b :: .long p :: st) n w = (K nx L (.long (p.toUInt64 >>> (b.toInt64.toUInt64 &&& Int64.toUInt64 63)).toInt64 :: st) n w) := rfl
theorem s_lshl : stp G o ini mL rt d nm J K Rt pc (some (.lshl, nx, ax, v)) L (.int b :: .long p :: st) n w = (K nx L (.long (p <<< (b.toInt64 &&& 63)) :: st) n w) := rfl
theorem s_i2l : stp G o ini mL rt d nm J K Rt pc (some (.i2l, nx, ax, v)) L (.int a :: st) n w = (K nx L (.long a.toInt64 :: st) n w) := rfl
theorem s_l2i : stp G o ini mL rt d nm J K Rt pc (some (.l2i, nx, ax, v)) L (.long p :: st) n w = (K nx L (.int p.toInt32 :: st) n w) := rfl
theorem s_i2c : stp G o ini mL rt d nm J K Rt pc (some (.i2c, nx, ax, v)) L (.int a :: st) n w = (K nx L (.int (a.toUInt32 % 65536).toInt32 :: st) n w) := rfl
theorem s_icmp_eq {c : Int} : stp G o ini mL rt d nm J K Rt pc (some (.if_icmp .eq c, nx, ax, v)) L (.int b :: .int a :: st) n w = ((a = b → K ax L st n w) ∧ (¬ a = b → K nx L st n w)) := rfl
theorem s_if_eq {c : Int} : stp G o ini mL rt d nm J K Rt pc (some (.ifCond .eq c, nx, ax, v)) L (.int a :: st) n w = ((a = 0 → K ax L st n w) ∧ (¬ a = 0 → K nx L st n w)) := rfl
theorem s_icmp_ne {c : Int} : stp G o ini mL rt d nm J K Rt pc (some (.if_icmp .ne c, nx, ax, v)) L (.int b :: .int a :: st) n w = ((¬ a = b → K ax L st n w) ∧ (a = b → K nx L st n w)) := rfl
theorem s_if_ne {c : Int} : stp G o ini mL rt d nm J K Rt pc (some (.ifCond .ne c, nx, ax, v)) L (.int a :: st) n w = ((¬ a = 0 → K ax L st n w) ∧ (a = 0 → K nx L st n w)) := rfl
theorem s_icmp_lt {c : Int} : stp G o ini mL rt d nm J K Rt pc (some (.if_icmp .lt c, nx, ax, v)) L (.int b :: .int a :: st) n w = ((a < b → K ax L st n w) ∧ (¬ a < b → K nx L st n w)) := rfl
theorem s_if_lt {c : Int} : stp G o ini mL rt d nm J K Rt pc (some (.ifCond .lt c, nx, ax, v)) L (.int a :: st) n w = ((a < 0 → K ax L st n w) ∧ (¬ a < 0 → K nx L st n w)) := rfl
theorem s_icmp_ge {c : Int} : stp G o ini mL rt d nm J K Rt pc (some (.if_icmp .ge c, nx, ax, v)) L (.int b :: .int a :: st) n w = ((b ≤ a → K ax L st n w) ∧ (¬ b ≤ a → K nx L st n w)) := rfl
theorem s_if_ge {c : Int} : stp G o ini mL rt d nm J K Rt pc (some (.ifCond .ge c, nx, ax, v)) L (.int a :: st) n w = ((0 ≤ a → K ax L st n w) ∧ (¬ 0 ≤ a → K nx L st n w)) := rfl
theorem s_icmp_gt {c : Int} : stp G o ini mL rt d nm J K Rt pc (some (.if_icmp .gt c, nx, ax, v)) L (.int b :: .int a :: st) n w = ((b < a → K ax L st n w) ∧ (¬ b < a → K nx L st n w)) := rfl
theorem s_if_gt {c : Int} : stp G o ini mL rt d nm J K Rt pc (some (.ifCond .gt c, nx, ax, v)) L (.int a :: st) n w = ((0 < a → K ax L st n w) ∧ (¬ 0 < a → K nx L st n w)) := rfl
theorem s_icmp_le {c : Int} : stp G o ini mL rt d nm J K Rt pc (some (.if_icmp .le c, nx, ax, v)) L (.int b :: .int a :: st) n w = ((a ≤ b → K ax L st n w) ∧ (¬ a ≤ b → K nx L st n w)) := rfl
theorem s_if_le {c : Int} : stp G o ini mL rt d nm J K Rt pc (some (.ifCond .le c, nx, ax, v)) L (.int a :: st) n w = ((a ≤ 0 → K ax L st n w) ∧ (¬ a ≤ 0 → K nx L st n w)) := rfl
theorem s_goto {c : Int} : stp G o ini mL rt d nm J K Rt pc (some (.goto c, nx, ax, v)) L st n w = (K ax L st n w) := rfl
theorem s_dup : stp G o ini mL rt d nm J K Rt pc (some (.dup, nx, ax, v)) L (u :: st) n w = (u.category = 1 ∧ K nx L (u :: u :: st) n w) := rfl
theorem s_dup2 : stp G o ini mL rt d nm J K Rt pc (some (.dup2, nx, ax, v)) L (u :: z :: st) n w = (u.category = 1 ∧ z.category = 1 ∧ K nx L (u :: z :: u :: z :: st) n w) := rfl
theorem s_pop : stp G o ini mL rt d nm J K Rt pc (some (.pop, nx, ax, v)) L (u :: st) n w = (u.category = 1 ∧ K nx L st n w) := rfl
theorem s_tsw {c1 c2 c3 : Int} {c4 : Array Int} : stp G o ini mL rt d nm J K Rt pc (some (.tableswitch c1 c2 c3 c4, nx, ax, v)) L (.int x :: st) n w = (∃ t, swT (.tableswitch c1 c2 c3 c4) pc x = some t ∧ J t L st n w) := rfl
theorem s_lsw {c1 : Int} {c2 : Array (Int × Int)} : stp G o ini mL rt d nm J K Rt pc (some (.lookupswitch c1 c2, nx, ax, v)) L (.int x :: st) n w = (∃ t, swT (.lookupswitch c1 c2) pc x = some t ∧ J t L st n w) := rfl
theorem s_getf {idx ci k : Nat} {bb : Bool} (h : rF o idx = some (ci, k, bb)) : stp G o ini mL rt d nm J K Rt pc (some (.getfield idx, nx, ax, v)) L (.ref r :: st) n w = (isF (w r) ci k ∧ K nx L (gF (w r) k :: st) n w) := by simp only [stp, h, s1A]
theorem s_putf {idx ci k : Nat} {bb : Bool} (h : rF o idx = some (ci, k, bb)) : stp G o ini mL rt d nm J K Rt pc (some (.putfield idx, nx, ax, v)) L (u :: .ref r :: st) n w = (isF (w r) ci k ∧ pok (ftC ci k) u ∧ (fnC ci k = true → ini = true ∧ ci = o) ∧ K nx L st n (va_up w r (sF (w r) k u))) := by simp only [stp, h, sVA]
theorem s_gets {idx j : Nat} {bb : Bool} (h : rS o idx = some (j, bb)) : stp G o ini mL rt d nm J K Rt pc (some (.getstatic idx, nx, ax, v)) L st n w = (K nx L (.ref (1000 + j) :: st) n w) := by simp only [stp, h]
theorem s_ldcw {idx : Nat} {c : Int32} (h : rI o idx = some c) : stp G o ini mL rt d nm J K Rt pc (some (.ldc_w idx, nx, ax, v)) L st n w = (K nx L (.int c :: st) n w) := by simp only [stp, h]
theorem s_ldc2 {idx : Nat} {c : Int64} (h : rJ o idx = some c) : stp G o ini mL rt d nm J K Rt pc (some (.ldc2_w idx, nx, ax, v)) L st n w = (K nx L (.long c :: st) n w) := by simp only [stp, h]
theorem s_iaload : stp G o ini mL rt d nm J K Rt pc (some (.iaload, nx, ax, v)) L (.int i :: .ref r :: st) n w = (isP0 (w r) i ∧ K nx L (.int (gE (w r) i.toNatClampNeg) :: st) n w) := rfl
theorem s_baload : stp G o ini mL rt d nm J K Rt pc (some (.baload, nx, ax, v)) L (.int i :: .ref r :: st) n w = (isP (w r) 1 i ∧ K nx L (.int (gE (w r) i.toNatClampNeg) :: st) n w) := rfl
theorem s_caload : stp G o ini mL rt d nm J K Rt pc (some (.caload, nx, ax, v)) L (.int i :: .ref r :: st) n w = (isP (w r) 2 i ∧ K nx L (.int (gE (w r) i.toNatClampNeg) :: st) n w) := rfl
theorem s_iastore : stp G o ini mL rt d nm J K Rt pc (some (.iastore, nx, ax, v)) L (.int x :: .int i :: .ref r :: st) n w = (isP (w r) 0 i ∧ K nx L st n (va_up w r (sE (w r) i.toNatClampNeg x))) := rfl
theorem s_bastore : stp G o ini mL rt d nm J K Rt pc (some (.bastore, nx, ax, v)) L (.int x :: .int i :: .ref r :: st) n w = (isP (w r) 1 i ∧ K nx L st n (va_up w r (sE (w r) i.toNatClampNeg (vp_nar .boolean x)))) := rfl
theorem s_castore : stp G o ini mL rt d nm J K Rt pc (some (.castore, nx, ax, v)) L (.int x :: .int i :: .ref r :: st) n w = (isP (w r) 2 i ∧ K nx L st n (va_up w r (sE (w r) i.toNatClampNeg (vp_nar .char x)))) := rfl
theorem s_aaload : stp G o ini mL rt d nm J K Rt pc (some (.aaload, nx, ax, v)) L (.int i :: .ref r :: st) n w = (isR (w r) i ∧ isS (gO (w r) i.toNatClampNeg) ∧ K nx L (.ref (vS (gO (w r) i.toNatClampNeg)) :: st) n w) := rfl
theorem s_aastore : stp G o ini mL rt d nm J K Rt pc (some (.aastore, nx, ax, v)) L (.ref r2 :: .int i :: .ref r :: st) n w = (isR (w r) i ∧ isO (w r2) 0 ∧ K nx L st n (va_up w r (sO (w r) i.toNatClampNeg r2))) := rfl
theorem s_alen : stp G o ini mL rt d nm J K Rt pc (some (.arraylength, nx, ax, v)) L (.ref r :: st) n w = (isSc (w r) ∧ K nx L (.int (nSc (w r)) :: st) n w) := rfl
theorem s_new {idx ci : Nat} (h : rC o idx = some ci) : stp G o ini mL rt d nm J K Rt pc (some (.new idx, nx, ax, v)) L st n w = (n + 1 ≤ nm ∧ K nx L (.ref n :: st) (n + 1) (va_up w n (some (.inr (.inr (ci, dfl ci)))))) := by simp only [stp, h]
theorem s_newa {ty : ArrayType} : stp G o ini mL rt d nm J K Rt pc (some (.newarray ty, nx, ax, v)) L (.int x :: st) n w = (akd ty < 3 ∧ ¬ x < 0 ∧ x.toNatClampNeg ≤ 2000 ∧ n + 1 ≤ nm ∧ K nx L (.ref n :: st) (n + 1) (va_up w n (some (.inl ((akd ty, x.toNatClampNeg), fun _ => 0))))) := rfl
theorem s_newq {idx : Nat} : stp G o ini mL rt d nm J K Rt pc (some (.anewarray idx, nx, ax, v)) L (.int x :: st) n w = (rC o idx = some 0 ∧ ¬ x < 0 ∧ x.toNatClampNeg ≤ 2000 ∧ n + 1 ≤ nm ∧ K nx L (.ref n :: st) (n + 1) (va_up w n (some (.inr (.inl (x.toNatClampNeg, fun _ => none)))))) := rfl
theorem s_invokespecial {idx : Nat} : stp G o ini mL rt d nm J K Rt pc (some (.invokespecial idx, nx, ax, v)) L st n w = (kkd 0 (rM o idx) ∧ ivk G d nm J K (rM o idx) nx L st n w) := rfl
theorem s_invokevirtual {idx : Nat} : stp G o ini mL rt d nm J K Rt pc (some (.invokevirtual idx, nx, ax, v)) L st n w = (kkd 1 (rM o idx) ∧ ivk G d nm J K (rM o idx) nx L st n w) := rfl
theorem s_invokestatic {idx : Nat} : stp G o ini mL rt d nm J K Rt pc (some (.invokestatic idx, nx, ax, v)) L st n w = (kkd 2 (rM o idx) ∧ ivk G d nm J K (rM o idx) nx L st n w) := rfl
theorem s_ireturn : stp G o ini mL rt d nm J K Rt pc (some (.ireturn, nx, ax, v)) L [.int x] n w = ((∃ ty, rt = some ty ∧ narrow ty (.int x) = .int x) ∧ Rt (some (.int x)) n w) := by simp [stp, s1I]
theorem s_return : stp G o ini mL rt d nm J K Rt pc (some (.return_, nx, ax, v)) L [] n w = (rt = none ∧ Rt none n w) := by simp [stp]
theorem iv0_1 {mi : Nat} {v0 : Value} : ivk G d nm J K (some (mi, 0, 1)) nx L (v0 :: st) n w = (st.length ≤ 4 ∧ ∃ k, n + k ≤ nm ∧ T G d k mi [v0] n w (fun r w' => J nx L (r.toList ++ st) (n + k) w')) := by simp [ivk]
theorem iv0_2 {mi : Nat} {v0 v1 : Value} : ivk G d nm J K (some (mi, 0, 2)) nx L (v1 :: v0 :: st) n w = (st.length ≤ 4 ∧ ∃ k, n + k ≤ nm ∧ T G d k mi [v0, v1] n w (fun r w' => J nx L (r.toList ++ st) (n + k) w')) := by simp [ivk]
theorem iv0_3 {mi : Nat} {v0 v1 v2 : Value} : ivk G d nm J K (some (mi, 0, 3)) nx L (v2 :: v1 :: v0 :: st) n w = (st.length ≤ 4 ∧ ∃ k, n + k ≤ nm ∧ T G d k mi [v0, v1, v2] n w (fun r w' => J nx L (r.toList ++ st) (n + k) w')) := by simp [ivk]
theorem iv0_4 {mi : Nat} {v0 v1 v2 v3 : Value} : ivk G d nm J K (some (mi, 0, 4)) nx L (v3 :: v2 :: v1 :: v0 :: st) n w = (st.length ≤ 4 ∧ ∃ k, n + k ≤ nm ∧ T G d k mi [v0, v1, v2, v3] n w (fun r w' => J nx L (r.toList ++ st) (n + k) w')) := by simp [ivk]
theorem iv0_5 {mi : Nat} {v0 v1 v2 v3 v4 : Value} : ivk G d nm J K (some (mi, 0, 5)) nx L (v4 :: v3 :: v2 :: v1 :: v0 :: st) n w = (st.length ≤ 4 ∧ ∃ k, n + k ≤ nm ∧ T G d k mi [v0, v1, v2, v3, v4] n w (fun r w' => J nx L (r.toList ++ st) (n + k) w')) := by simp [ivk]
theorem iv0_6 {mi : Nat} {v0 v1 v2 v3 v4 v5 : Value} : ivk G d nm J K (some (mi, 0, 6)) nx L (v5 :: v4 :: v3 :: v2 :: v1 :: v0 :: st) n w = (st.length ≤ 4 ∧ ∃ k, n + k ≤ nm ∧ T G d k mi [v0, v1, v2, v3, v4, v5] n w (fun r w' => J nx L (r.toList ++ st) (n + k) w')) := by simp [ivk]
theorem iv1_1 {mi : Nat} {v0 : Value} : ivk G d nm J K (some (mi, 1, 1)) nx L (v0 :: st) n w = (st.length ≤ 4 ∧ ∃ k, n + k ≤ nm ∧ T G d k mi [v0] n w (fun r w' => J nx L (r.toList ++ st) (n + k) w')) := by simp [ivk]
theorem iv1_2 {mi : Nat} {v0 v1 : Value} : ivk G d nm J K (some (mi, 1, 2)) nx L (v1 :: v0 :: st) n w = (st.length ≤ 4 ∧ ∃ k, n + k ≤ nm ∧ T G d k mi [v0, v1] n w (fun r w' => J nx L (r.toList ++ st) (n + k) w')) := by simp [ivk]
theorem iv1_3 {mi : Nat} {v0 v1 v2 : Value} : ivk G d nm J K (some (mi, 1, 3)) nx L (v2 :: v1 :: v0 :: st) n w = (st.length ≤ 4 ∧ ∃ k, n + k ≤ nm ∧ T G d k mi [v0, v1, v2] n w (fun r w' => J nx L (r.toList ++ st) (n + k) w')) := by simp [ivk]
theorem iv1_4 {mi : Nat} {v0 v1 v2 v3 : Value} : ivk G d nm J K (some (mi, 1, 4)) nx L (v3 :: v2 :: v1 :: v0 :: st) n w = (st.length ≤ 4 ∧ ∃ k, n + k ≤ nm ∧ T G d k mi [v0, v1, v2, v3] n w (fun r w' => J nx L (r.toList ++ st) (n + k) w')) := by simp [ivk]
theorem iv1_5 {mi : Nat} {v0 v1 v2 v3 v4 : Value} : ivk G d nm J K (some (mi, 1, 5)) nx L (v4 :: v3 :: v2 :: v1 :: v0 :: st) n w = (st.length ≤ 4 ∧ ∃ k, n + k ≤ nm ∧ T G d k mi [v0, v1, v2, v3, v4] n w (fun r w' => J nx L (r.toList ++ st) (n + k) w')) := by simp [ivk]
theorem iv1_6 {mi : Nat} {v0 v1 v2 v3 v4 v5 : Value} : ivk G d nm J K (some (mi, 1, 6)) nx L (v5 :: v4 :: v3 :: v2 :: v1 :: v0 :: st) n w = (st.length ≤ 4 ∧ ∃ k, n + k ≤ nm ∧ T G d k mi [v0, v1, v2, v3, v4, v5] n w (fun r w' => J nx L (r.toList ++ st) (n + k) w')) := by simp [ivk]
theorem iv2_1 {mi : Nat} : ivk G d nm J K (some (mi, 2, 1)) nx L (.ref r :: st) n w = (st.length ≤ 4 ∧ isO (w r) (mr mi).2.2.2.2 ∧ ∃ k, n + k ≤ nm ∧ T G d k mi [.ref r] n w (fun r w' => J nx L (r.toList ++ st) (n + k) w')) := by simp [ivk, isRc]
theorem iv2_2 {mi : Nat} {v0 : Value} : ivk G d nm J K (some (mi, 2, 2)) nx L (v0 :: .ref r :: st) n w = (st.length ≤ 4 ∧ isO (w r) (mr mi).2.2.2.2 ∧ ∃ k, n + k ≤ nm ∧ T G d k mi [.ref r, v0] n w (fun r w' => J nx L (r.toList ++ st) (n + k) w')) := by simp [ivk, isRc]
theorem iv2_3 {mi : Nat} {v0 v1 : Value} : ivk G d nm J K (some (mi, 2, 3)) nx L (v1 :: v0 :: .ref r :: st) n w = (st.length ≤ 4 ∧ isO (w r) (mr mi).2.2.2.2 ∧ ∃ k, n + k ≤ nm ∧ T G d k mi [.ref r, v0, v1] n w (fun r w' => J nx L (r.toList ++ st) (n + k) w')) := by simp [ivk, isRc]
theorem iv2_4 {mi : Nat} {v0 v1 v2 : Value} : ivk G d nm J K (some (mi, 2, 4)) nx L (v2 :: v1 :: v0 :: .ref r :: st) n w = (st.length ≤ 4 ∧ isO (w r) (mr mi).2.2.2.2 ∧ ∃ k, n + k ≤ nm ∧ T G d k mi [.ref r, v0, v1, v2] n w (fun r w' => J nx L (r.toList ++ st) (n + k) w')) := by simp [ivk, isRc]
theorem iv3_1 {mi : Nat} : ivk G d nm J K (some (mi, 3, 1)) nx L (.ref r :: st) n w = (st.length ≤ 4 ∧ isO (w r) (mr mi).2.2.2.2 ∧ ∃ k, n + k ≤ nm ∧ T G d k mi [.ref r] n w (fun r w' => J nx L (r.toList ++ st) (n + k) w')) := by simp [ivk, isRc]
theorem iv3_2 {mi : Nat} {v0 : Value} : ivk G d nm J K (some (mi, 3, 2)) nx L (v0 :: .ref r :: st) n w = (st.length ≤ 4 ∧ isO (w r) (mr mi).2.2.2.2 ∧ ∃ k, n + k ≤ nm ∧ T G d k mi [.ref r, v0] n w (fun r w' => J nx L (r.toList ++ st) (n + k) w')) := by simp [ivk, isRc]
theorem iv3_3 {mi : Nat} {v0 v1 : Value} : ivk G d nm J K (some (mi, 3, 3)) nx L (v1 :: v0 :: .ref r :: st) n w = (st.length ≤ 4 ∧ isO (w r) (mr mi).2.2.2.2 ∧ ∃ k, n + k ≤ nm ∧ T G d k mi [.ref r, v0, v1] n w (fun r w' => J nx L (r.toList ++ st) (n + k) w')) := by simp [ivk, isRc]
theorem iv3_4 {mi : Nat} {v0 v1 v2 : Value} : ivk G d nm J K (some (mi, 3, 4)) nx L (v2 :: v1 :: v0 :: .ref r :: st) n w = (st.length ≤ 4 ∧ isO (w r) (mr mi).2.2.2.2 ∧ ∃ k, n + k ≤ nm ∧ T G d k mi [.ref r, v0, v1, v2] n w (fun r w' => J nx L (r.toList ++ st) (n + k) w')) := by simp [ivk, isRc]
theorem iv4_1 {mi : Nat} : ivk G d nm J K (some (mi, 4, 1)) nx L (.ref r :: st) n w = (st.length ≤ 4 ∧ isO (w r) (mr mi).2.2.2.2 ∧ ∃ k, n + k ≤ nm ∧ T G d k mi [.ref r] n w (fun r w' => J nx L (r.toList ++ st) (n + k) w')) := by simp [ivk, isRc]
theorem iv4_2 {mi : Nat} {v0 : Value} : ivk G d nm J K (some (mi, 4, 2)) nx L (v0 :: .ref r :: st) n w = (st.length ≤ 4 ∧ isO (w r) (mr mi).2.2.2.2 ∧ ∃ k, n + k ≤ nm ∧ T G d k mi [.ref r, v0] n w (fun r w' => J nx L (r.toList ++ st) (n + k) w')) := by simp [ivk, isRc]
theorem iv4_3 {mi : Nat} {v0 v1 : Value} : ivk G d nm J K (some (mi, 4, 3)) nx L (v1 :: v0 :: .ref r :: st) n w = (st.length ≤ 4 ∧ isO (w r) (mr mi).2.2.2.2 ∧ ∃ k, n + k ≤ nm ∧ T G d k mi [.ref r, v0, v1] n w (fun r w' => J nx L (r.toList ++ st) (n + k) w')) := by simp [ivk, isRc]
theorem iv4_4 {mi : Nat} {v0 v1 v2 : Value} : ivk G d nm J K (some (mi, 4, 4)) nx L (v2 :: v1 :: v0 :: .ref r :: st) n w = (st.length ≤ 4 ∧ isO (w r) (mr mi).2.2.2.2 ∧ ∃ k, n + k ≤ nm ∧ T G d k mi [.ref r, v0, v1, v2] n w (fun r w' => J nx L (r.toList ++ st) (n + k) w')) := by simp [ivk, isRc]
theorem iv5_1 {mi : Nat} : ivk G d nm J K (some (mi, 5, 1)) nx L (.ref r :: st) n w = (st.length ≤ 4 ∧ isO (w r) (mr mi).2.2.2.2 ∧ ∃ k, n + k ≤ nm ∧ T G d k mi [.ref r] n w (fun r w' => J nx L (r.toList ++ st) (n + k) w')) := by simp [ivk, isRc]
theorem iv5_2 {mi : Nat} {v0 : Value} : ivk G d nm J K (some (mi, 5, 2)) nx L (v0 :: .ref r :: st) n w = (st.length ≤ 4 ∧ isO (w r) (mr mi).2.2.2.2 ∧ ∃ k, n + k ≤ nm ∧ T G d k mi [.ref r, v0] n w (fun r w' => J nx L (r.toList ++ st) (n + k) w')) := by simp [ivk, isRc]
theorem iv5_3 {mi : Nat} {v0 v1 : Value} : ivk G d nm J K (some (mi, 5, 3)) nx L (v1 :: v0 :: .ref r :: st) n w = (st.length ≤ 4 ∧ isO (w r) (mr mi).2.2.2.2 ∧ ∃ k, n + k ≤ nm ∧ T G d k mi [.ref r, v0, v1] n w (fun r w' => J nx L (r.toList ++ st) (n + k) w')) := by simp [ivk, isRc]
theorem iv5_4 {mi : Nat} {v0 v1 v2 : Value} : ivk G d nm J K (some (mi, 5, 4)) nx L (v2 :: v1 :: v0 :: .ref r :: st) n w = (st.length ≤ 4 ∧ isO (w r) (mr mi).2.2.2.2 ∧ ∃ k, n + k ≤ nm ∧ T G d k mi [.ref r, v0, v1, v2] n w (fun r w' => J nx L (r.toList ++ st) (n + k) w')) := by simp [ivk, isRc]
theorem iv9 {mi na : Nat} : ivk G d nm J K (some (mi, 9, na)) nx L (.ref r :: st) n w = (st.length ≤ 4 ∧ K nx L st n w) := rfl
theorem iv10 {mi na : Nat} {sp dp m : Int32} : ivk G d nm J K (some (mi, 10, na)) nx L (.int m :: .int dp :: .ref r2 :: .int sp :: .ref r :: st) n w = (st.length ≤ 4 ∧ isCp (w r) (w r2) sp dp m ∧ K nx L st n (va_up w r2 (cpE (w r) (w r2) sp dp m))) := rfl
theorem iv11 {mi na : Nat} : ivk G d nm J K (some (mi, 11, na)) nx L (.int b :: .int a :: st) n w = (st.length ≤ 4 ∧ K nx L (.int (if a < b then b else a) :: st) n w) := rfl
theorem iv12 {mi na : Nat} : ivk G d nm J K (some (mi, 12, na)) nx L (.int b :: .int a :: st) n w = (st.length ≤ 4 ∧ K nx L (.int (if b < a then b else a) :: st) n w) := rfl
theorem run_s (h : S pc = false) : run G o ini mL rt d nm J Rt cc S (f + 1) pc L st n w = stp G o ini mL rt d nm J (run G o ini mL rt d nm J Rt cc S f) Rt pc (dec cc pc) L st n w := by simp only [run, h]; rfl
theorem run_e (h : S pc = true) : run G o ini mL rt d nm J Rt cc S (f + 1) pc L st n w = J pc L st n w := by simp only [run, h]; rfl
theorem run_0 : run G o ini mL rt d nm J Rt cc S 0 pc L st n w = J pc L st n w := rfl
end EQS
