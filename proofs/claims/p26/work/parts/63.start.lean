/-! THE CLAIM OUT OF ONE WALK OF THE LAW'S BODY. Your part is whole_start (and what it stands on); all else here is the same for every law, but numbers. -/
def R_law : String := "ClawCranesLaw"
def lw_P (b : Addr) (xs : List Int32) (args : Array Value) (s : State) : Prop := args = #[.ref b] ∧ s.IntsAt b xs ∧ xs.length ≤ 260 ∧ (Jvm.Cond.and given_1 narrow_1).before args s = true
def lw_Q (_ : Array Value) (s : State) (o : Outcome) (t : State) : Prop := o = .returned (some (.int 1)) ∧ Framed s o t [] 600000 7302250
def lw_Z (below : List Frame) (a : Array Value) (s : State) : State → Prop := fun t => ∃ o, t.status = .running ∧ Ended t below o ∧ lw_Q a s o t
/-- the law's own end, with 1 on the stack, nothing written that was there before, its room as the claim has it -/
theorem lw_ret {p : Program} {l : Launch} {e : Env} {s : State} {m : MethodId} {below : List Frame} {meth : Method} {c : Code} {b : Nat} (hx : p.tables.exec = Jvm.exec) (hb : c.code = code) (hr : meth.sig.returnType = ret) (hlocks : meth.locks = false) {pc : Nat} {H : Heap} {ls : Array Slot} (hdg : decode code pc = .ok (.ireturn, 1)) : W p l e room_1 s m #[Value.ref b] below meth c H [] 600000 7302250 (lw_Z below #[Value.ref b] s) (F0 m pc ls [.int 1]) := by
  intro T hT X
  obtain ⟨fs, hret, hrun, hended, hW, hframe⟩ := X.leave (v := some (.int 1)) (hlocks := hlocks) (fun h => by rw [hr] at h; cases h)
  have hmeth' : T.vm.method? m = some meth := X.method'
  refine ⟨T.setFrames fs, ?_, .returned (some (.int 1)), hrun, hended, rfl, ⟨_, rfl⟩, hW, hframe⟩
  jvm_step X.here [X.here.top, hx, hb, hdg, hmeth', hr, ret, narrow_b1]
  (try refine ⟨rfl, ?_⟩); (try refine ⟨rfl, ?_⟩)
  first | (intro acts; rw [hret _ acts rfl rfl rfl]) | rw [hret _ _ rfl rfl rfl]
  exact Steps.refl _
/-- what holds at the law's entry: the machine, the code, the tables' words (any of lw_tbl by 'hts w (by decide +kernel)'), the script of L ints xs at the cell b, what the Statement gives of the start (any of its parts by flat_of_before) -/
def lw_At (p : Program) (s : State) (m : MethodId) (meth : Method) (c : Code) (b L : Nat) (xs : Nat → Int32) : Prop :=
  p.tables.exec = Jvm.exec ∧ c.code = code ∧ meth.sig.returnType = ret ∧ c.maxLocals = 13 ∧ s.vm.findClass R_law = some m.cls ∧ (∀ w ∈ lw_tbl, w.before #[Value.ref b] s = true) ∧ va_X b L xs s s.heap ∧ b < s.heap.size ∧ meth.locks = false ∧ (Jvm.Cond.and given_1 narrow_1).before #[Value.ref b] s = true
def w0L (L : Nat) (xs : Zz) : Wd := fun i => if i = 1000 then ar 4 L xs else if i = 1001 then ar 4 6 FS0 else if i = 1002 then ar 4 6 LS0 else if i = 1003 then ar 4 6 MS0 else none
theorem law_start {G : Gx} {J : Kt} {L : Nat} {xs : Zz} (hJ : LJ G J RtL) (hL : L ≤ 260) : J 0 (entL 13 [.ref 1000]) [] 0 (w0L L xs) := by
  refine go_ok hJ (fun _ => false) 60 ?_
  simp -implicitDefEqProofs only [e_99_0, (s_new rC_8_15), e_99_3, s_dup, e_99_4, s_invokespecial, rM_8_97, iv2_1, hc_62, i1_0, up_n, ret_b, bI_0, pk_us, pk_un, up_e, up_up, Decidable.not_not, nI_1, Int32.add_zero, Int32.zero_add, vz_0, tn_0, vz_1, tn_1, vz_2, tn_2, vz_3, tn_3, vz_4, tn_4, vz_5, tn_5, vz_6, tn_6, vz_7, tn_7, vz_8, tn_8, vz_9, tn_9, vz_10, tn_10, vz_11, tn_11, vz_12, tn_12, vz_13, tn_13, vz_14, tn_14, vz_15, tn_15, vz_160, tn_160, vz_161, tn_161, vz_162, tn_162, vz_163, tn_163, vz_164, tn_164, vs_0, vs_1, vs_2, vs_3, vs_4, vs_5, run_s, run_e, run_0, true_and, and_true, and_self, or_true, true_or, or_false, false_or, List.length_cons, List.length_nil, Option.toList_some, Option.toList_none, List.cons_append, List.nil_append, isI_t, isJ_t, isA_t, vI_t, nI32_t, isF_t, gF_t, sF_t, isO_t, isP_t, isP0_t, gE_t, sE_t, isR_t, gO_t, sO_t, isS_t, vS_t, isSc_t, nSc_t, pok_i, pok_o, pok_a, pok_0, pok_1, ret_i, ret_0, ret_1, ret_v, clr_i, clr_j, clr_r, clr_n, cat_i, cat_r, kk0, kk1, kk2, eq_self, Nat.reduceEqDiff, Nat.reduceLeDiff, Nat.reduceAdd, Nat.reduceLT, Nat.reduceSub, Nat.reduceMul, forall_const, imp_false, not_true_eq_false, not_false_eq_true, false_imp_iff, Nat.zero_ne_one, Nat.one_ne_zero, Bool.false_eq_true, reduceCtorEq, ne_eq, Nat.add_zero, Nat.reduceBEq, Bool.or_false, Bool.or_true, Bool.false_or, Bool.true_or, or_self, entL, List.flatMap_cons, List.flatMap_nil, List.reduceReplicate, ↓reduceIte, cat_j, lg_0, lg_1, lg_2, lg_3, lg_4, lg_5, lg_6, lg_7, lg_8, lg_9, lg_10, lg_11, lg_12, lg_13, lg_14, lg_15, lg_16, ls_0, ls_1, ls_2, ls_3, ls_4, ls_5, ls_6, ls_7, ls_8, ls_9, ls_10, ls_11, ls_12, ls_13, ls_14, ls_15, ls_16, st_0, st_1, st_2, st_3, st_4, st_5, st_6, st_7, st_8, st_9, st_10, st_11, st_12, st_13, st_14, st_15]
  refine ⟨136, by decide, C_init (fs := FS0) (ls := LS0) (ms := MS0) ⟨(up_n (by decide)).trans rfl, (up_n (by decide)).trans rfl, (up_n (by decide)).trans rfl⟩ up_e (fun w1 hW1 hF1 => ?_)⟩
  have x1 : w1 1000 = ar 4 L xs := (hF1 _ (by omega)).trans ((up_n (by decide)).trans rfl)
  have s1 : CS w1 FS0 LS0 MS0 := ⟨(hF1 _ (by omega)).trans ((up_n (by decide)).trans rfl), (hF1 _ (by omega)).trans ((up_n (by decide)).trans rfl), (hF1 _ (by omega)).trans ((up_n (by decide)).trans rfl)⟩
  have b : LB L xs w1 (yN FS0) (yN FS0) 0 0 (fun _ => yN FS0) (fun _ => 0) := ⟨_, P0, _, by rw [nI_0]; exact hW1, s1, x1, nI_0.symm, by decide, by decide, yEq.rf⟩
  clear hW1 hF1 x1 s1
  have a0 := b.a0
  have g := GK_0
  have hsv : ∀ r : Nat, r < 2 → (fun _ => 0 : Nat → Int32) r = 0 ∨ (fun _ => 0 : Nat → Int32) r = 1 := fun _ _ => Or.inl rfl
  have hm : ∀ r : Nat, r < 2 → (fun _ => 0 : Nat → Int32) r = 1 → ¬ (fun _ => yN FS0 : Nat → Yy) r 2 0 < 0 := fun r _ e => absurd (show (0 : Int32) = 1 from e) (by decide)
  refine go_ok hJ (fun _ => false) 60 ?_
  simp -implicitDefEqProofs only [e_99_7, s_astore_n, e_99_8, s_aload_n, e_99_9, s_invokevirtual, rM_8_98, iv4_1, hc_83, e_99_12, s_bipush, i1_0, up_n, ret_b, bI_0, pk_us, pk_un, up_e, up_up, Decidable.not_not, nI_1, Int32.add_zero, Int32.zero_add, vz_0, tn_0, vz_1, tn_1, vz_2, tn_2, vz_3, tn_3, vz_4, tn_4, vz_5, tn_5, vz_6, tn_6, vz_7, tn_7, vz_8, tn_8, vz_9, tn_9, vz_10, tn_10, vz_11, tn_11, vz_12, tn_12, vz_13, tn_13, vz_14, tn_14, vz_15, tn_15, vz_160, tn_160, vz_161, tn_161, vz_162, tn_162, vz_163, tn_163, vz_164, tn_164, vs_0, vs_1, vs_2, vs_3, vs_4, vs_5, run_s, run_e, run_0, true_and, and_true, and_self, or_true, true_or, or_false, false_or, List.length_cons, List.length_nil, Option.toList_some, Option.toList_none, List.cons_append, List.nil_append, isI_t, isJ_t, isA_t, vI_t, nI32_t, isF_t, gF_t, sF_t, isO_t, isP_t, isP0_t, gE_t, sE_t, isR_t, gO_t, sO_t, isS_t, vS_t, isSc_t, nSc_t, pok_i, pok_o, pok_a, pok_0, pok_1, ret_i, ret_0, ret_1, ret_v, clr_i, clr_j, clr_r, clr_n, cat_i, cat_r, kk0, kk1, kk2, eq_self, Nat.reduceEqDiff, Nat.reduceLeDiff, Nat.reduceAdd, Nat.reduceLT, Nat.reduceSub, Nat.reduceMul, forall_const, imp_false, not_true_eq_false, not_false_eq_true, false_imp_iff, Nat.zero_ne_one, Nat.one_ne_zero, Bool.false_eq_true, reduceCtorEq, ne_eq, Nat.add_zero, Nat.reduceBEq, Bool.or_false, Bool.or_true, Bool.false_or, Bool.true_or, or_self, entL, List.flatMap_cons, List.flatMap_nil, List.reduceReplicate, ↓reduceIte, cat_j, lg_0, lg_1, lg_2, lg_3, lg_4, lg_5, lg_6, lg_7, lg_8, lg_9, lg_10, lg_11, lg_12, lg_13, lg_14, lg_15, lg_16, ls_0, ls_1, ls_2, ls_3, ls_4, ls_5, ls_6, ls_7, ls_8, ls_9, ls_10, ls_11, ls_12, ls_13, ls_14, ls_15, ls_16, st_0, st_1, st_2, st_3, st_4, st_5, st_6, st_7, st_8, st_9, st_10, st_11, st_12, st_13, st_14, st_15, a0]
  refine call0 (X_undo b (fun _ => ?_) (fun r _ _ e => absurd e (by omega)))
  refine go_ok hJ (fun p => p == 128) 60 ?_
  simp -implicitDefEqProofs only [e_99_9, s_invokevirtual, rM_8_98, iv4_1, hc_83, e_99_12, s_bipush, e_99_14, s_icmp_ne, e_99_17, s_aload_n, e_99_18, s_iconst, e_99_19, rM_8_74, iv4_2, hc_85, e_99_22, i1_0, up_n, ret_b, bI_0, pk_us, pk_un, up_e, up_up, Decidable.not_not, nI_1, Int32.add_zero, Int32.zero_add, vz_0, tn_0, vz_1, tn_1, vz_2, tn_2, vz_3, tn_3, vz_4, tn_4, vz_5, tn_5, vz_6, tn_6, vz_7, tn_7, vz_8, tn_8, vz_9, tn_9, vz_10, tn_10, vz_11, tn_11, vz_12, tn_12, vz_13, tn_13, vz_14, tn_14, vz_15, tn_15, vz_160, tn_160, vz_161, tn_161, vz_162, tn_162, vz_163, tn_163, vz_164, tn_164, vs_0, vs_1, vs_2, vs_3, vs_4, vs_5, run_s, run_e, run_0, true_and, and_true, and_self, or_true, true_or, or_false, false_or, List.length_cons, List.length_nil, Option.toList_some, Option.toList_none, List.cons_append, List.nil_append, isI_t, isJ_t, isA_t, vI_t, nI32_t, isF_t, gF_t, sF_t, isO_t, isP_t, isP0_t, gE_t, sE_t, isR_t, gO_t, sO_t, isS_t, vS_t, isSc_t, nSc_t, pok_i, pok_o, pok_a, pok_0, pok_1, ret_i, ret_0, ret_1, ret_v, clr_i, clr_j, clr_r, clr_n, cat_i, cat_r, kk0, kk1, kk2, eq_self, Nat.reduceEqDiff, Nat.reduceLeDiff, Nat.reduceAdd, Nat.reduceLT, Nat.reduceSub, Nat.reduceMul, forall_const, imp_false, not_true_eq_false, not_false_eq_true, false_imp_iff, Nat.zero_ne_one, Nat.one_ne_zero, Bool.false_eq_true, reduceCtorEq, ne_eq, Nat.add_zero, Nat.reduceBEq, Bool.or_false, Bool.or_true, Bool.false_or, Bool.true_or, or_self, entL, List.flatMap_cons, List.flatMap_nil, List.reduceReplicate, ↓reduceIte, cat_j, lg_0, lg_1, lg_2, lg_3, lg_4, lg_5, lg_6, lg_7, lg_8, lg_9, lg_10, lg_11, lg_12, lg_13, lg_14, lg_15, lg_16, ls_0, ls_1, ls_2, ls_3, ls_4, ls_5, ls_6, ls_7, ls_8, ls_9, ls_10, ls_11, ls_12, ls_13, ls_14, ls_15, ls_16, st_0, st_1, st_2, st_3, st_4, st_5, st_6, st_7, st_8, st_9, st_10, st_11, st_12, st_13, st_14, st_15, a0]
  refine call0 (X_restore b hsv hm (fun z => absurd (by decide) z) (fun _ _ _ _ => ?_) (fun r _ _ _ _ e => absurd e (by decide)))
  refine go_ok hJ (fun p => p == 128) 60 ?_
  simp -implicitDefEqProofs only [e_99_19, s_invokevirtual, rM_8_74, iv4_2, hc_85, e_99_22, s_bipush, e_99_24, s_icmp_ne, e_99_27, s_aload_n, e_99_28, s_iconst, e_99_29, e_99_32, i1_0, up_n, ret_b, bI_0, pk_us, pk_un, up_e, up_up, Decidable.not_not, nI_1, Int32.add_zero, Int32.zero_add, vz_0, tn_0, vz_1, tn_1, vz_2, tn_2, vz_3, tn_3, vz_4, tn_4, vz_5, tn_5, vz_6, tn_6, vz_7, tn_7, vz_8, tn_8, vz_9, tn_9, vz_10, tn_10, vz_11, tn_11, vz_12, tn_12, vz_13, tn_13, vz_14, tn_14, vz_15, tn_15, vz_160, tn_160, vz_161, tn_161, vz_162, tn_162, vz_163, tn_163, vz_164, tn_164, vs_0, vs_1, vs_2, vs_3, vs_4, vs_5, run_s, run_e, run_0, true_and, and_true, and_self, or_true, true_or, or_false, false_or, List.length_cons, List.length_nil, Option.toList_some, Option.toList_none, List.cons_append, List.nil_append, isI_t, isJ_t, isA_t, vI_t, nI32_t, isF_t, gF_t, sF_t, isO_t, isP_t, isP0_t, gE_t, sE_t, isR_t, gO_t, sO_t, isS_t, vS_t, isSc_t, nSc_t, pok_i, pok_o, pok_a, pok_0, pok_1, ret_i, ret_0, ret_1, ret_v, clr_i, clr_j, clr_r, clr_n, cat_i, cat_r, kk0, kk1, kk2, eq_self, Nat.reduceEqDiff, Nat.reduceLeDiff, Nat.reduceAdd, Nat.reduceLT, Nat.reduceSub, Nat.reduceMul, forall_const, imp_false, not_true_eq_false, not_false_eq_true, false_imp_iff, Nat.zero_ne_one, Nat.one_ne_zero, Bool.false_eq_true, reduceCtorEq, ne_eq, Nat.add_zero, Nat.reduceBEq, Bool.or_false, Bool.or_true, Bool.false_or, Bool.true_or, or_self, entL, List.flatMap_cons, List.flatMap_nil, List.reduceReplicate, ↓reduceIte, cat_j, lg_0, lg_1, lg_2, lg_3, lg_4, lg_5, lg_6, lg_7, lg_8, lg_9, lg_10, lg_11, lg_12, lg_13, lg_14, lg_15, lg_16, ls_0, ls_1, ls_2, ls_3, ls_4, ls_5, ls_6, ls_7, ls_8, ls_9, ls_10, ls_11, ls_12, ls_13, ls_14, ls_15, ls_16, st_0, st_1, st_2, st_3, st_4, st_5, st_6, st_7, st_8, st_9, st_10, st_11, st_12, st_13, st_14, st_15, a0]
  refine call0 (X_restore b hsv hm (fun z => absurd (by decide) z) (fun _ _ _ _ => ?_) (fun r _ _ _ _ e => absurd e (by decide)))
  refine go_ok hJ (fun p => p == 128) 60 ?_
  simp -implicitDefEqProofs only [e_99_29, s_invokevirtual, rM_8_74, iv4_2, hc_85, e_99_32, s_bipush, e_99_34, s_icmp_ne, e_99_37, s_aload_n, e_99_38, e_99_40, rM_8_14, hc_74, i1_0, up_n, ret_b, bI_0, pk_us, pk_un, up_e, up_up, Decidable.not_not, nI_1, Int32.add_zero, Int32.zero_add, vz_0, tn_0, vz_1, tn_1, vz_2, tn_2, vz_3, tn_3, vz_4, tn_4, vz_5, tn_5, vz_6, tn_6, vz_7, tn_7, vz_8, tn_8, vz_9, tn_9, vz_10, tn_10, vz_11, tn_11, vz_12, tn_12, vz_13, tn_13, vz_14, tn_14, vz_15, tn_15, vz_160, tn_160, vz_161, tn_161, vz_162, tn_162, vz_163, tn_163, vz_164, tn_164, vs_0, vs_1, vs_2, vs_3, vs_4, vs_5, run_s, run_e, run_0, true_and, and_true, and_self, or_true, true_or, or_false, false_or, List.length_cons, List.length_nil, Option.toList_some, Option.toList_none, List.cons_append, List.nil_append, isI_t, isJ_t, isA_t, vI_t, nI32_t, isF_t, gF_t, sF_t, isO_t, isP_t, isP0_t, gE_t, sE_t, isR_t, gO_t, sO_t, isS_t, vS_t, isSc_t, nSc_t, pok_i, pok_o, pok_a, pok_0, pok_1, ret_i, ret_0, ret_1, ret_v, clr_i, clr_j, clr_r, clr_n, cat_i, cat_r, kk0, kk1, kk2, eq_self, Nat.reduceEqDiff, Nat.reduceLeDiff, Nat.reduceAdd, Nat.reduceLT, Nat.reduceSub, Nat.reduceMul, forall_const, imp_false, not_true_eq_false, not_false_eq_true, false_imp_iff, Nat.zero_ne_one, Nat.one_ne_zero, Bool.false_eq_true, reduceCtorEq, ne_eq, Nat.add_zero, Nat.reduceBEq, Bool.or_false, Bool.or_true, Bool.false_or, Bool.true_or, or_self, entL, List.flatMap_cons, List.flatMap_nil, List.reduceReplicate, ↓reduceIte, cat_j, lg_0, lg_1, lg_2, lg_3, lg_4, lg_5, lg_6, lg_7, lg_8, lg_9, lg_10, lg_11, lg_12, lg_13, lg_14, lg_15, lg_16, ls_0, ls_1, ls_2, ls_3, ls_4, ls_5, ls_6, ls_7, ls_8, ls_9, ls_10, ls_11, ls_12, ls_13, ls_14, ls_15, ls_16, st_0, st_1, st_2, st_3, st_4, st_5, st_6, st_7, st_8, st_9, st_10, st_11, st_12, st_13, st_14, st_15, a0]
  refine call0 (X_cnt b g (v := 12) (x := 2) rfl ?_)
  refine go_ok hJ (fun p => p == 128) 60 ?_
  simp -implicitDefEqProofs only [e_99_40, s_invokevirtual, rM_8_14, iv4_2, hc_74, e_99_43, s_iconst, e_99_44, s_icmp_ne, e_99_47, s_aload_n, e_99_48, s_bipush, e_99_50, i1_0, up_n, ret_b, bI_0, pk_us, pk_un, up_e, up_up, Decidable.not_not, nI_1, Int32.add_zero, Int32.zero_add, vz_0, tn_0, vz_1, tn_1, vz_2, tn_2, vz_3, tn_3, vz_4, tn_4, vz_5, tn_5, vz_6, tn_6, vz_7, tn_7, vz_8, tn_8, vz_9, tn_9, vz_10, tn_10, vz_11, tn_11, vz_12, tn_12, vz_13, tn_13, vz_14, tn_14, vz_15, tn_15, vz_160, tn_160, vz_161, tn_161, vz_162, tn_162, vz_163, tn_163, vz_164, tn_164, vs_0, vs_1, vs_2, vs_3, vs_4, vs_5, run_s, run_e, run_0, true_and, and_true, and_self, or_true, true_or, or_false, false_or, List.length_cons, List.length_nil, Option.toList_some, Option.toList_none, List.cons_append, List.nil_append, isI_t, isJ_t, isA_t, vI_t, nI32_t, isF_t, gF_t, sF_t, isO_t, isP_t, isP0_t, gE_t, sE_t, isR_t, gO_t, sO_t, isS_t, vS_t, isSc_t, nSc_t, pok_i, pok_o, pok_a, pok_0, pok_1, ret_i, ret_0, ret_1, ret_v, clr_i, clr_j, clr_r, clr_n, cat_i, cat_r, kk0, kk1, kk2, eq_self, Nat.reduceEqDiff, Nat.reduceLeDiff, Nat.reduceAdd, Nat.reduceLT, Nat.reduceSub, Nat.reduceMul, forall_const, imp_false, not_true_eq_false, not_false_eq_true, false_imp_iff, Nat.zero_ne_one, Nat.one_ne_zero, Bool.false_eq_true, reduceCtorEq, ne_eq, Nat.add_zero, Nat.reduceBEq, Bool.or_false, Bool.or_true, Bool.false_or, Bool.true_or, or_self, entL, List.flatMap_cons, List.flatMap_nil, List.reduceReplicate, ↓reduceIte, cat_j, lg_0, lg_1, lg_2, lg_3, lg_4, lg_5, lg_6, lg_7, lg_8, lg_9, lg_10, lg_11, lg_12, lg_13, lg_14, lg_15, lg_16, ls_0, ls_1, ls_2, ls_3, ls_4, ls_5, ls_6, ls_7, ls_8, ls_9, ls_10, ls_11, ls_12, ls_13, ls_14, ls_15, ls_16, st_0, st_1, st_2, st_3, st_4, st_5, st_6, st_7, st_8, st_9, st_10, st_11, st_12, st_13, st_14, st_15, a0]
  refine call0 (X_cnt b g (v := 13) (x := 20) rfl ?_)
  refine go_ok hJ (fun p => p == 128) 60 ?_
  simp -implicitDefEqProofs only [e_99_50, s_invokevirtual, rM_8_14, iv4_2, hc_74, e_99_53, s_bipush, e_99_55, s_icmp_ne, e_99_58, s_aload_n, e_99_59, e_99_61, i1_0, up_n, ret_b, bI_0, pk_us, pk_un, up_e, up_up, Decidable.not_not, nI_1, Int32.add_zero, Int32.zero_add, vz_0, tn_0, vz_1, tn_1, vz_2, tn_2, vz_3, tn_3, vz_4, tn_4, vz_5, tn_5, vz_6, tn_6, vz_7, tn_7, vz_8, tn_8, vz_9, tn_9, vz_10, tn_10, vz_11, tn_11, vz_12, tn_12, vz_13, tn_13, vz_14, tn_14, vz_15, tn_15, vz_160, tn_160, vz_161, tn_161, vz_162, tn_162, vz_163, tn_163, vz_164, tn_164, vs_0, vs_1, vs_2, vs_3, vs_4, vs_5, run_s, run_e, run_0, true_and, and_true, and_self, or_true, true_or, or_false, false_or, List.length_cons, List.length_nil, Option.toList_some, Option.toList_none, List.cons_append, List.nil_append, isI_t, isJ_t, isA_t, vI_t, nI32_t, isF_t, gF_t, sF_t, isO_t, isP_t, isP0_t, gE_t, sE_t, isR_t, gO_t, sO_t, isS_t, vS_t, isSc_t, nSc_t, pok_i, pok_o, pok_a, pok_0, pok_1, ret_i, ret_0, ret_1, ret_v, clr_i, clr_j, clr_r, clr_n, cat_i, cat_r, kk0, kk1, kk2, eq_self, Nat.reduceEqDiff, Nat.reduceLeDiff, Nat.reduceAdd, Nat.reduceLT, Nat.reduceSub, Nat.reduceMul, forall_const, imp_false, not_true_eq_false, not_false_eq_true, false_imp_iff, Nat.zero_ne_one, Nat.one_ne_zero, Bool.false_eq_true, reduceCtorEq, ne_eq, Nat.add_zero, Nat.reduceBEq, Bool.or_false, Bool.or_true, Bool.false_or, Bool.true_or, or_self, entL, List.flatMap_cons, List.flatMap_nil, List.reduceReplicate, ↓reduceIte, cat_j, lg_0, lg_1, lg_2, lg_3, lg_4, lg_5, lg_6, lg_7, lg_8, lg_9, lg_10, lg_11, lg_12, lg_13, lg_14, lg_15, lg_16, ls_0, ls_1, ls_2, ls_3, ls_4, ls_5, ls_6, ls_7, ls_8, ls_9, ls_10, ls_11, ls_12, ls_13, ls_14, ls_15, ls_16, st_0, st_1, st_2, st_3, st_4, st_5, st_6, st_7, st_8, st_9, st_10, st_11, st_12, st_13, st_14, st_15, a0]
  refine call0 (X_cnt b g (v := 14) (x := 12) rfl ?_)
  refine go_ok hJ (fun p => p == 128) 60 ?_
  simp -implicitDefEqProofs only [e_99_61, s_invokevirtual, rM_8_14, iv4_2, hc_74, e_99_64, s_bipush, e_99_66, s_icmp_ne, e_99_69, s_aload_n, e_99_70, e_99_72, i1_0, up_n, ret_b, bI_0, pk_us, pk_un, up_e, up_up, Decidable.not_not, nI_1, Int32.add_zero, Int32.zero_add, vz_0, tn_0, vz_1, tn_1, vz_2, tn_2, vz_3, tn_3, vz_4, tn_4, vz_5, tn_5, vz_6, tn_6, vz_7, tn_7, vz_8, tn_8, vz_9, tn_9, vz_10, tn_10, vz_11, tn_11, vz_12, tn_12, vz_13, tn_13, vz_14, tn_14, vz_15, tn_15, vz_160, tn_160, vz_161, tn_161, vz_162, tn_162, vz_163, tn_163, vz_164, tn_164, vs_0, vs_1, vs_2, vs_3, vs_4, vs_5, run_s, run_e, run_0, true_and, and_true, and_self, or_true, true_or, or_false, false_or, List.length_cons, List.length_nil, Option.toList_some, Option.toList_none, List.cons_append, List.nil_append, isI_t, isJ_t, isA_t, vI_t, nI32_t, isF_t, gF_t, sF_t, isO_t, isP_t, isP0_t, gE_t, sE_t, isR_t, gO_t, sO_t, isS_t, vS_t, isSc_t, nSc_t, pok_i, pok_o, pok_a, pok_0, pok_1, ret_i, ret_0, ret_1, ret_v, clr_i, clr_j, clr_r, clr_n, cat_i, cat_r, kk0, kk1, kk2, eq_self, Nat.reduceEqDiff, Nat.reduceLeDiff, Nat.reduceAdd, Nat.reduceLT, Nat.reduceSub, Nat.reduceMul, forall_const, imp_false, not_true_eq_false, not_false_eq_true, false_imp_iff, Nat.zero_ne_one, Nat.one_ne_zero, Bool.false_eq_true, reduceCtorEq, ne_eq, Nat.add_zero, Nat.reduceBEq, Bool.or_false, Bool.or_true, Bool.false_or, Bool.true_or, or_self, entL, List.flatMap_cons, List.flatMap_nil, List.reduceReplicate, ↓reduceIte, cat_j, lg_0, lg_1, lg_2, lg_3, lg_4, lg_5, lg_6, lg_7, lg_8, lg_9, lg_10, lg_11, lg_12, lg_13, lg_14, lg_15, lg_16, ls_0, ls_1, ls_2, ls_3, ls_4, ls_5, ls_6, ls_7, ls_8, ls_9, ls_10, ls_11, ls_12, ls_13, ls_14, ls_15, ls_16, st_0, st_1, st_2, st_3, st_4, st_5, st_6, st_7, st_8, st_9, st_10, st_11, st_12, st_13, st_14, st_15, a0]
  refine call0 (X_cnt b g (v := 15) (x := 45) rfl ?_)
  refine go_ok hJ (fun p => p == 128) 60 ?_
  simp -implicitDefEqProofs only [e_99_72, s_invokevirtual, rM_8_14, iv4_2, hc_74, e_99_75, s_bipush, e_99_77, s_icmp_ne, e_99_80, s_aload_n, e_99_81, e_99_83, i1_0, up_n, ret_b, bI_0, pk_us, pk_un, up_e, up_up, Decidable.not_not, nI_1, Int32.add_zero, Int32.zero_add, vz_0, tn_0, vz_1, tn_1, vz_2, tn_2, vz_3, tn_3, vz_4, tn_4, vz_5, tn_5, vz_6, tn_6, vz_7, tn_7, vz_8, tn_8, vz_9, tn_9, vz_10, tn_10, vz_11, tn_11, vz_12, tn_12, vz_13, tn_13, vz_14, tn_14, vz_15, tn_15, vz_160, tn_160, vz_161, tn_161, vz_162, tn_162, vz_163, tn_163, vz_164, tn_164, vs_0, vs_1, vs_2, vs_3, vs_4, vs_5, run_s, run_e, run_0, true_and, and_true, and_self, or_true, true_or, or_false, false_or, List.length_cons, List.length_nil, Option.toList_some, Option.toList_none, List.cons_append, List.nil_append, isI_t, isJ_t, isA_t, vI_t, nI32_t, isF_t, gF_t, sF_t, isO_t, isP_t, isP0_t, gE_t, sE_t, isR_t, gO_t, sO_t, isS_t, vS_t, isSc_t, nSc_t, pok_i, pok_o, pok_a, pok_0, pok_1, ret_i, ret_0, ret_1, ret_v, clr_i, clr_j, clr_r, clr_n, cat_i, cat_r, kk0, kk1, kk2, eq_self, Nat.reduceEqDiff, Nat.reduceLeDiff, Nat.reduceAdd, Nat.reduceLT, Nat.reduceSub, Nat.reduceMul, forall_const, imp_false, not_true_eq_false, not_false_eq_true, false_imp_iff, Nat.zero_ne_one, Nat.one_ne_zero, Bool.false_eq_true, reduceCtorEq, ne_eq, Nat.add_zero, Nat.reduceBEq, Bool.or_false, Bool.or_true, Bool.false_or, Bool.true_or, or_self, entL, List.flatMap_cons, List.flatMap_nil, List.reduceReplicate, ↓reduceIte, cat_j, lg_0, lg_1, lg_2, lg_3, lg_4, lg_5, lg_6, lg_7, lg_8, lg_9, lg_10, lg_11, lg_12, lg_13, lg_14, lg_15, lg_16, ls_0, ls_1, ls_2, ls_3, ls_4, ls_5, ls_6, ls_7, ls_8, ls_9, ls_10, ls_11, ls_12, ls_13, ls_14, ls_15, ls_16, st_0, st_1, st_2, st_3, st_4, st_5, st_6, st_7, st_8, st_9, st_10, st_11, st_12, st_13, st_14, st_15, a0]
  refine call0 (X_cnt b g (v := 16) (x := 3) rfl ?_)
  refine go_ok hJ (fun p => p == 128) 60 ?_
  simp -implicitDefEqProofs only [e_99_83, s_invokevirtual, rM_8_14, iv4_2, hc_74, e_99_86, s_iconst, e_99_87, s_icmp_ne, e_99_90, s_aload_n, e_99_91, s_bipush, e_99_93, i1_0, up_n, ret_b, bI_0, pk_us, pk_un, up_e, up_up, Decidable.not_not, nI_1, Int32.add_zero, Int32.zero_add, vz_0, tn_0, vz_1, tn_1, vz_2, tn_2, vz_3, tn_3, vz_4, tn_4, vz_5, tn_5, vz_6, tn_6, vz_7, tn_7, vz_8, tn_8, vz_9, tn_9, vz_10, tn_10, vz_11, tn_11, vz_12, tn_12, vz_13, tn_13, vz_14, tn_14, vz_15, tn_15, vz_160, tn_160, vz_161, tn_161, vz_162, tn_162, vz_163, tn_163, vz_164, tn_164, vs_0, vs_1, vs_2, vs_3, vs_4, vs_5, run_s, run_e, run_0, true_and, and_true, and_self, or_true, true_or, or_false, false_or, List.length_cons, List.length_nil, Option.toList_some, Option.toList_none, List.cons_append, List.nil_append, isI_t, isJ_t, isA_t, vI_t, nI32_t, isF_t, gF_t, sF_t, isO_t, isP_t, isP0_t, gE_t, sE_t, isR_t, gO_t, sO_t, isS_t, vS_t, isSc_t, nSc_t, pok_i, pok_o, pok_a, pok_0, pok_1, ret_i, ret_0, ret_1, ret_v, clr_i, clr_j, clr_r, clr_n, cat_i, cat_r, kk0, kk1, kk2, eq_self, Nat.reduceEqDiff, Nat.reduceLeDiff, Nat.reduceAdd, Nat.reduceLT, Nat.reduceSub, Nat.reduceMul, forall_const, imp_false, not_true_eq_false, not_false_eq_true, false_imp_iff, Nat.zero_ne_one, Nat.one_ne_zero, Bool.false_eq_true, reduceCtorEq, ne_eq, Nat.add_zero, Nat.reduceBEq, Bool.or_false, Bool.or_true, Bool.false_or, Bool.true_or, or_self, entL, List.flatMap_cons, List.flatMap_nil, List.reduceReplicate, ↓reduceIte, cat_j, lg_0, lg_1, lg_2, lg_3, lg_4, lg_5, lg_6, lg_7, lg_8, lg_9, lg_10, lg_11, lg_12, lg_13, lg_14, lg_15, lg_16, ls_0, ls_1, ls_2, ls_3, ls_4, ls_5, ls_6, ls_7, ls_8, ls_9, ls_10, ls_11, ls_12, ls_13, ls_14, ls_15, ls_16, st_0, st_1, st_2, st_3, st_4, st_5, st_6, st_7, st_8, st_9, st_10, st_11, st_12, st_13, st_14, st_15, a0]
  refine call0 (X_cnt b g (v := 17) (x := 2) rfl ?_)
  refine go_ok hJ (fun p => p == 128) 60 ?_
  simp -implicitDefEqProofs only [e_99_93, s_invokevirtual, rM_8_14, iv4_2, hc_74, e_99_96, s_iconst, e_99_97, s_icmp_ne, e_99_100, s_aload_n, e_99_101, e_99_102, s_invokestatic, rM_8_101, iv0_2, i1_0, up_n, ret_b, bI_0, pk_us, pk_un, up_e, up_up, Decidable.not_not, nI_1, Int32.add_zero, Int32.zero_add, vz_0, tn_0, vz_1, tn_1, vz_2, tn_2, vz_3, tn_3, vz_4, tn_4, vz_5, tn_5, vz_6, tn_6, vz_7, tn_7, vz_8, tn_8, vz_9, tn_9, vz_10, tn_10, vz_11, tn_11, vz_12, tn_12, vz_13, tn_13, vz_14, tn_14, vz_15, tn_15, vz_160, tn_160, vz_161, tn_161, vz_162, tn_162, vz_163, tn_163, vz_164, tn_164, vs_0, vs_1, vs_2, vs_3, vs_4, vs_5, run_s, run_e, run_0, true_and, and_true, and_self, or_true, true_or, or_false, false_or, List.length_cons, List.length_nil, Option.toList_some, Option.toList_none, List.cons_append, List.nil_append, isI_t, isJ_t, isA_t, vI_t, nI32_t, isF_t, gF_t, sF_t, isO_t, isP_t, isP0_t, gE_t, sE_t, isR_t, gO_t, sO_t, isS_t, vS_t, isSc_t, nSc_t, pok_i, pok_o, pok_a, pok_0, pok_1, ret_i, ret_0, ret_1, ret_v, clr_i, clr_j, clr_r, clr_n, cat_i, cat_r, kk0, kk1, kk2, eq_self, Nat.reduceEqDiff, Nat.reduceLeDiff, Nat.reduceAdd, Nat.reduceLT, Nat.reduceSub, Nat.reduceMul, forall_const, imp_false, not_true_eq_false, not_false_eq_true, false_imp_iff, Nat.zero_ne_one, Nat.one_ne_zero, Bool.false_eq_true, reduceCtorEq, ne_eq, Nat.add_zero, Nat.reduceBEq, Bool.or_false, Bool.or_true, Bool.false_or, Bool.true_or, or_self, entL, List.flatMap_cons, List.flatMap_nil, List.reduceReplicate, ↓reduceIte, cat_j, lg_0, lg_1, lg_2, lg_3, lg_4, lg_5, lg_6, lg_7, lg_8, lg_9, lg_10, lg_11, lg_12, lg_13, lg_14, lg_15, lg_16, ls_0, ls_1, ls_2, ls_3, ls_4, ls_5, ls_6, ls_7, ls_8, ls_9, ls_10, ls_11, ls_12, ls_13, ls_14, ls_15, ls_16, st_0, st_1, st_2, st_3, st_4, st_5, st_6, st_7, st_8, st_9, st_10, st_11, st_12, st_13, st_14, st_15, a0]
  refine call0 (L_refuses (X := 0) (by decide) b g hsv hm fun w2 b2 => ?_)
  have a2 := b2.a0
  refine go_ok hJ (fun p => p == 128) 60 ?_
  simp -implicitDefEqProofs only [e_99_102, s_invokestatic, rM_8_101, iv0_2, e_99_105, s_if_eq, e_99_108, s_aload_n, e_99_109, s_iconst, e_99_110, i1_0, up_n, ret_b, bI_0, pk_us, pk_un, up_e, up_up, Decidable.not_not, nI_1, Int32.add_zero, Int32.zero_add, vz_0, tn_0, vz_1, tn_1, vz_2, tn_2, vz_3, tn_3, vz_4, tn_4, vz_5, tn_5, vz_6, tn_6, vz_7, tn_7, vz_8, tn_8, vz_9, tn_9, vz_10, tn_10, vz_11, tn_11, vz_12, tn_12, vz_13, tn_13, vz_14, tn_14, vz_15, tn_15, vz_160, tn_160, vz_161, tn_161, vz_162, tn_162, vz_163, tn_163, vz_164, tn_164, vs_0, vs_1, vs_2, vs_3, vs_4, vs_5, run_s, run_e, run_0, true_and, and_true, and_self, or_true, true_or, or_false, false_or, List.length_cons, List.length_nil, Option.toList_some, Option.toList_none, List.cons_append, List.nil_append, isI_t, isJ_t, isA_t, vI_t, nI32_t, isF_t, gF_t, sF_t, isO_t, isP_t, isP0_t, gE_t, sE_t, isR_t, gO_t, sO_t, isS_t, vS_t, isSc_t, nSc_t, pok_i, pok_o, pok_a, pok_0, pok_1, ret_i, ret_0, ret_1, ret_v, clr_i, clr_j, clr_r, clr_n, cat_i, cat_r, kk0, kk1, kk2, eq_self, Nat.reduceEqDiff, Nat.reduceLeDiff, Nat.reduceAdd, Nat.reduceLT, Nat.reduceSub, Nat.reduceMul, forall_const, imp_false, not_true_eq_false, not_false_eq_true, false_imp_iff, Nat.zero_ne_one, Nat.one_ne_zero, Bool.false_eq_true, reduceCtorEq, ne_eq, Nat.add_zero, Nat.reduceBEq, Bool.or_false, Bool.or_true, Bool.false_or, Bool.true_or, or_self, entL, List.flatMap_cons, List.flatMap_nil, List.reduceReplicate, ↓reduceIte, cat_j, lg_0, lg_1, lg_2, lg_3, lg_4, lg_5, lg_6, lg_7, lg_8, lg_9, lg_10, lg_11, lg_12, lg_13, lg_14, lg_15, lg_16, ls_0, ls_1, ls_2, ls_3, ls_4, ls_5, ls_6, ls_7, ls_8, ls_9, ls_10, ls_11, ls_12, ls_13, ls_14, ls_15, ls_16, st_0, st_1, st_2, st_3, st_4, st_5, st_6, st_7, st_8, st_9, st_10, st_11, st_12, st_13, st_14, st_15, a2, i1_0]
  refine call0 (L_refuses (X := 1) (by decide) b2 g hsv hm fun w3 b3 => ?_)
  have a3 := b3.a0
  refine go_ok hJ (fun p => p == 128) 60 ?_
  simp -implicitDefEqProofs only [e_99_110, s_invokestatic, rM_8_101, iv0_2, e_99_113, s_if_eq, e_99_116, s_aload_n, e_99_117, s_iconst, e_99_118, s_invokevirtual, rM_8_71, iv4_2, hc_84, i1_0, up_n, ret_b, bI_0, pk_us, pk_un, up_e, up_up, Decidable.not_not, nI_1, Int32.add_zero, Int32.zero_add, vz_0, tn_0, vz_1, tn_1, vz_2, tn_2, vz_3, tn_3, vz_4, tn_4, vz_5, tn_5, vz_6, tn_6, vz_7, tn_7, vz_8, tn_8, vz_9, tn_9, vz_10, tn_10, vz_11, tn_11, vz_12, tn_12, vz_13, tn_13, vz_14, tn_14, vz_15, tn_15, vz_160, tn_160, vz_161, tn_161, vz_162, tn_162, vz_163, tn_163, vz_164, tn_164, vs_0, vs_1, vs_2, vs_3, vs_4, vs_5, run_s, run_e, run_0, true_and, and_true, and_self, or_true, true_or, or_false, false_or, List.length_cons, List.length_nil, Option.toList_some, Option.toList_none, List.cons_append, List.nil_append, isI_t, isJ_t, isA_t, vI_t, nI32_t, isF_t, gF_t, sF_t, isO_t, isP_t, isP0_t, gE_t, sE_t, isR_t, gO_t, sO_t, isS_t, vS_t, isSc_t, nSc_t, pok_i, pok_o, pok_a, pok_0, pok_1, ret_i, ret_0, ret_1, ret_v, clr_i, clr_j, clr_r, clr_n, cat_i, cat_r, kk0, kk1, kk2, eq_self, Nat.reduceEqDiff, Nat.reduceLeDiff, Nat.reduceAdd, Nat.reduceLT, Nat.reduceSub, Nat.reduceMul, forall_const, imp_false, not_true_eq_false, not_false_eq_true, false_imp_iff, Nat.zero_ne_one, Nat.one_ne_zero, Bool.false_eq_true, reduceCtorEq, ne_eq, Nat.add_zero, Nat.reduceBEq, Bool.or_false, Bool.or_true, Bool.false_or, Bool.true_or, or_self, entL, List.flatMap_cons, List.flatMap_nil, List.reduceReplicate, ↓reduceIte, cat_j, lg_0, lg_1, lg_2, lg_3, lg_4, lg_5, lg_6, lg_7, lg_8, lg_9, lg_10, lg_11, lg_12, lg_13, lg_14, lg_15, lg_16, ls_0, ls_1, ls_2, ls_3, ls_4, ls_5, ls_6, ls_7, ls_8, ls_9, ls_10, ls_11, ls_12, ls_13, ls_14, ls_15, ls_16, st_0, st_1, st_2, st_3, st_4, st_5, st_6, st_7, st_8, st_9, st_10, st_11, st_12, st_13, st_14, st_15, a3, i1_0]
  refine call0 (X_save b3 (fun z => absurd (by decide) z) (fun r w4 yb hr e eb b4 => ?_))
  obtain rfl : r = 1 := by
    have : r = 0 ∨ r = 1 := by omega
    rcases this with rfl | rfl
    · exact absurd e (by decide)
    · rfl
  have z20 : (yN FS0 2 0 = 0) = True := eq_true rfl
  have hSI : SI (sq (fun _ => yN FS0) 1 yb) (upd (fun _ => 0) 1 1) := by
    refine ⟨fun r hr => ?_, fun r hr => ?_, pk_us, ?_⟩
    · by_cases z : r = 1
      · rw [z, pk_us]
        exact Or.inr rfl
      · rw [pk_un z]
        exact Or.inl rfl
    · by_cases z : r = 1
      · rw [z, show sq (fun _ => yN FS0) 1 yb 1 = yb from if_pos rfl, eb 2 (by decide) 0 (by decide)]
        decide
      · rw [show sq (fun _ => yN FS0) 1 yb r = yN FS0 from if_neg z]
        decide
    · rw [show sq (fun _ => yN FS0) 1 yb 1 = yb from if_pos rfl]
      exact eb
  have e := law_loop (xs := xs) hJ hL 70 0 rfl w4 ⟨_, _, _, _, _, _, _, _, _, _, _, _, b4, g, hSI⟩ .null .null .null .null .null .null .null .null .null
  rw [nI_0] at e
  refine go_ok hJ (fun p => p == 128 || p == 132) 60 ?_
  simp -implicitDefEqProofs only [e_99_118, s_invokevirtual, rM_8_71, iv4_2, hc_84, e_99_121, s_if_ne, e_99_124, s_iconst, e_99_125, s_goto, e_99_128, e_99_129, s_istore_n, e_99_130, e_99_131, i1_0, up_n, ret_b, bI_0, pk_us, pk_un, up_e, up_up, Decidable.not_not, nI_1, Int32.add_zero, Int32.zero_add, vz_0, tn_0, vz_1, tn_1, vz_2, tn_2, vz_3, tn_3, vz_4, tn_4, vz_5, tn_5, vz_6, tn_6, vz_7, tn_7, vz_8, tn_8, vz_9, tn_9, vz_10, tn_10, vz_11, tn_11, vz_12, tn_12, vz_13, tn_13, vz_14, tn_14, vz_15, tn_15, vz_160, tn_160, vz_161, tn_161, vz_162, tn_162, vz_163, tn_163, vz_164, tn_164, vs_0, vs_1, vs_2, vs_3, vs_4, vs_5, run_s, run_e, run_0, true_and, and_true, and_self, or_true, true_or, or_false, false_or, List.length_cons, List.length_nil, Option.toList_some, Option.toList_none, List.cons_append, List.nil_append, isI_t, isJ_t, isA_t, vI_t, nI32_t, isF_t, gF_t, sF_t, isO_t, isP_t, isP0_t, gE_t, sE_t, isR_t, gO_t, sO_t, isS_t, vS_t, isSc_t, nSc_t, pok_i, pok_o, pok_a, pok_0, pok_1, ret_i, ret_0, ret_1, ret_v, clr_i, clr_j, clr_r, clr_n, cat_i, cat_r, kk0, kk1, kk2, eq_self, Nat.reduceEqDiff, Nat.reduceLeDiff, Nat.reduceAdd, Nat.reduceLT, Nat.reduceSub, Nat.reduceMul, forall_const, imp_false, not_true_eq_false, not_false_eq_true, false_imp_iff, Nat.zero_ne_one, Nat.one_ne_zero, Bool.false_eq_true, reduceCtorEq, ne_eq, Nat.add_zero, Nat.reduceBEq, Bool.or_false, Bool.or_true, Bool.false_or, Bool.true_or, or_self, entL, List.flatMap_cons, List.flatMap_nil, List.reduceReplicate, ↓reduceIte, cat_j, lg_0, lg_1, lg_2, lg_3, lg_4, lg_5, lg_6, lg_7, lg_8, lg_9, lg_10, lg_11, lg_12, lg_13, lg_14, lg_15, lg_16, ls_0, ls_1, ls_2, ls_3, ls_4, ls_5, ls_6, ls_7, ls_8, ls_9, ls_10, ls_11, ls_12, ls_13, ls_14, ls_15, ls_16, st_0, st_1, st_2, st_3, st_4, st_5, st_6, st_7, st_8, st_9, st_10, st_11, st_12, st_13, st_14, st_15, z20]
  exact e
theorem st_eqi {args : Array Value} {s : State} {t : Term} {z : Int32} (h : (Cond.eq t (.int z)).before args s = true) : t.eval args s none [] s = some (.int z) := by
  cases hv : t.eval args s none [] s with
  | none => simp [Cond.before, Cond.holds, Cond.value, hv] at h
  | some w =>
    have hz : (Term.int z).eval args s none [] s = some (.int z) := rfl
    simp only [Cond.before, Cond.holds, Cond.value, hv, hz] at h
    cases w <;> simp_all
theorem st_arr {args : Array Value} {s : State} {t : Term} {f : Nat → Int32} (h1 : (Cond.arrayOf t .int).before args s = true) (h2 : (Cond.eq (.length t) (.int 6)).before args s = true) (h3 : ∀ i, i < 6 → (Cond.eq (.elem t (.int (nI i))) (.int (f i))).before args s = true) : ∃ a, t.eval args s none [] s = some (.ref a) ∧ va_X a 6 f s s.heap ∧ a < s.heap.size := by
  have hv := st_eqi h2
  obtain ⟨a, cell, ht, harr, he⟩ := Term.length_spec hv
  obtain ⟨hcell, hkn, -, -⟩ := State.arrayAt?_spec harr
  have hof := (Cond.arrayOf_spec h1 ht hcell).1
  have hsz : cell.slots.size < 2 ^ 31 := by
    simp only [Term.eval, ht, harr, Option.bind_eq_bind, Option.bind_some] at hv
    by_cases hlt : cell.slots.size < 2147483648
    · exact hlt
    · simp [hlt] at hv
  have h6 : cell.slots.size = 6 := by
    injection he with he
    exact ((nI_eq (a := 6) (by decide) hsz).mp he).symm
  refine ⟨a, ht, ⟨cell, hcell, hof, hkn, h6, fun j hj => ?_⟩, (Array.getElem?_eq_some_iff.mp hcell).1⟩
  obtain ⟨a', k, cell', g1, g2, g3, -, g5⟩ := Term.elem_spec (st_eqi (h3 j hj))
  cases ht.symm.trans g1
  cases harr.symm.trans g3
  cases (show (Term.int (nI j)).eval args s none [] s = some (.int (nI j)) from rfl).symm.trans g2
  rw [nI_clamp (by omega)] at g5
  exact g5
theorem lt6 {P : Nat → Prop} (h0 : P 0) (h1 : P 1) (h2 : P 2) (h3 : P 3) (h4 : P 4) (h5 : P 5) : ∀ i, i < 6 → P i := fun i hi => by
  have k6 : i = 0 ∨ i = 1 ∨ i = 2 ∨ i = 3 ∨ i = 4 ∨ i = 5 := by omega
  rcases k6 with rfl | rfl | rfl | rfl | rfl | rfl <;> assumption
def stF : Nat → Nat → Int32
  | 1 => FS0
  | 2 => LS0
  | _ => MS0
theorem st_all {s : State} {b : Nat} (hgv : (Jvm.Cond.and given_1 narrow_1).before #[Value.ref b] s = true) : ∃ gs : Nat → Nat, ∀ j, 1 ≤ j → j < 4 → (Term.static "ClawCranes" (sNm j) "[I").eval #[Value.ref b] s none [] s = some (.ref (gs j)) ∧ va_X (gs j) 6 (stF j) s s.heap ∧ gs j < s.heap.size := by
  have hs := flat_of_before _ hgv
  obtain ⟨a1, p1⟩ := st_arr (t := .static "ClawCranes" "FIRST_SETTING" "[I") (f := FS0) (hs _ (by decide +kernel)) (hs _ (by decide +kernel)) (lt6 (hs _ (by decide +kernel)) (hs _ (by decide +kernel)) (hs _ (by decide +kernel)) (hs _ (by decide +kernel)) (hs _ (by decide +kernel)) (hs _ (by decide +kernel)))
  obtain ⟨a2, p2⟩ := st_arr (t := .static "ClawCranes" "LEAST_SETTING" "[I") (f := LS0) (hs _ (by decide +kernel)) (hs _ (by decide +kernel)) (lt6 (hs _ (by decide +kernel)) (hs _ (by decide +kernel)) (hs _ (by decide +kernel)) (hs _ (by decide +kernel)) (hs _ (by decide +kernel)) (hs _ (by decide +kernel)))
  obtain ⟨a3, p3⟩ := st_arr (t := .static "ClawCranes" "MOST_SETTING" "[I") (f := MS0) (hs _ (by decide +kernel)) (hs _ (by decide +kernel)) (lt6 (hs _ (by decide +kernel)) (hs _ (by decide +kernel)) (hs _ (by decide +kernel)) (hs _ (by decide +kernel)) (hs _ (by decide +kernel)) (hs _ (by decide +kernel)))
  refine ⟨fun j => if j = 1 then a1 else if j = 2 then a2 else a3, fun j h1 h4 => ?_⟩
  have k3 : j = 1 ∨ j = 2 ∨ j = 3 := by omega
  rcases k3 with rfl | rfl | rfl
  · exact p1
  · exact p2
  · exact p3
theorem lst_1 : Cond.laysStatic "ClawCranes" "FIRST_SETTING" "[I" ∈ lw_tbl := by decide +kernel
theorem lst_2 : Cond.laysStatic "ClawCranes" "LEAST_SETTING" "[I" ∈ lw_tbl := by decide +kernel
theorem lst_3 : Cond.laysStatic "ClawCranes" "MOST_SETTING" "[I" ∈ lw_tbl := by decide +kernel
theorem in_cc : Cond.initialized "ClawCranes" ∈ lw_tbl := by decide +kernel
theorem ao_cr : Cond.arrayOver (.object "ClawCranes$Crane") ∈ lw_tbl := by decide +kernel
theorem is_X0 : Cond.instantiable RX0 11 ∈ lw_tbl := by decide +kernel
theorem is_X1 : Cond.instantiable RX1 3 ∈ lw_tbl := by decide +kernel
theorem is_X2 : Cond.instantiable RX2 3 ∈ lw_tbl := by decide +kernel
theorem is_X3 : Cond.instantiable RX3 8 ∈ lw_tbl := by decide +kernel
theorem is_X4 : Cond.instantiable RX4 2 ∈ lw_tbl := by decide +kernel
theorem is_X5 : Cond.instantiable RX5 7 ∈ lw_tbl := by decide +kernel
theorem is_X6 : Cond.instantiable RX6 5 ∈ lw_tbl := by decide +kernel
theorem kn_cl {s : State} {args : Array Value} (hts : ∀ w ∈ lw_tbl, w.before args s = true) : ∃ D : va_G, ∀ (c : Nat) (q : vw_C), vwCl[c]? = some q → u_Kn s q.1 q.2.1 q.2.2 (D.1 c) (D.2 c) := by
  have h : ∀ k : Nat, ∃ p : ClassId × (Nat → Nat), ∀ q : vw_C, vwCl[k]? = some q → u_Kn s q.1 q.2.1 q.2.2 p.1 p.2 := by
    intro k
    match k with
    | 0 =>
      obtain ⟨c, iS, h⟩ := u_known (C := RX0) (T := TX0) (N := 11) (n := 11) hts inX0 (hts _ is_X0)
      exact ⟨(c, iS), fun q hq => by cases hq; exact h⟩
    | 1 =>
      obtain ⟨c, iS, h⟩ := u_known (C := RX1) (T := TX1) (N := 3) (n := 3) hts inX1 (hts _ is_X1)
      exact ⟨(c, iS), fun q hq => by cases hq; exact h⟩
    | 2 =>
      obtain ⟨c, iS, h⟩ := u_known (C := RX2) (T := TX2) (N := 3) (n := 3) hts inX2 (hts _ is_X2)
      exact ⟨(c, iS), fun q hq => by cases hq; exact h⟩
    | 3 =>
      obtain ⟨c, iS, h⟩ := u_known (C := RX3) (T := TX3) (N := 8) (n := 8) hts inX3 (hts _ is_X3)
      exact ⟨(c, iS), fun q hq => by cases hq; exact h⟩
    | 4 =>
      obtain ⟨c, iS, h⟩ := u_known (C := RX4) (T := TX4) (N := 2) (n := 2) hts inX4 (hts _ is_X4)
      exact ⟨(c, iS), fun q hq => by cases hq; exact h⟩
    | 5 =>
      obtain ⟨c, iS, h⟩ := u_known (C := RX5) (T := TX5) (N := 7) (n := 7) hts inX5 (hts _ is_X5)
      exact ⟨(c, iS), fun q hq => by cases hq; exact h⟩
    | 6 =>
      obtain ⟨c, iS, h⟩ := u_known (C := RX6) (T := TX6) (N := 5) (n := 5) hts inX6 (hts _ is_X6)
      exact ⟨(c, iS), fun q hq => by cases hq; exact h⟩
    | k + 7 => exact ⟨(0, fun _ => 0), fun q hq => by simp [vwCl] at hq⟩
  exact ⟨(fun k => (Classical.choose (h k)).1, fun k => (Classical.choose (h k)).2), fun c q hq => Classical.choose_spec (h c) q hq⟩
theorem kn_arr {s : State} {args : Array Value} {ty : FieldType} (h : (Cond.arrayClass ty).before args s = true) : ∃ c, ArrOfT s c ty ∧ s.vm.findClass ("[" ++ ty.toString) = some c := by
  obtain ⟨c, k, comp, h1, h2, h3⟩ := Cond.arrayClass_spec h
  exact ⟨c, fun N z => ⟨(fun k h => by cases h), k, h2, comp, h3⟩, h1⟩
theorem kn_all {s : State} {b L : Nat} {xs : Zz} (l : Launch) (hL : L ≤ 260) (hts : ∀ w ∈ lw_tbl, w.before #[Value.ref b] s = true) (hX : va_X b L xs s s.heap) (hbl : b < s.heap.size) (hgv : (Jvm.Cond.and given_1 narrow_1).before #[Value.ref b] s = true) : ∃ G : Gx, gL G = l ∧ gB G = s.heap.size ∧ gS G 0 = b ∧ (∀ j, 1 ≤ j → j < 4 → gR G j = (6, stF j)) ∧ gR G 0 = (L, xs) ∧ Kn G s := by
  obtain ⟨D, hD⟩ := kn_cl hts
  obtain ⟨cI, i1, i2⟩ := kn_arr (hts _ acI)
  obtain ⟨cZ, z1, z2⟩ := kn_arr (hts _ acZ)
  obtain ⟨cC, c1, c2⟩ := kn_arr (hts _ acC)
  obtain ⟨comp, cR, kR, r1, -, r3, r4, r5⟩ := Cond.arrayOver_spec (hts _ ao_cr)
  obtain ⟨gs, hg⟩ := st_all hgv
  have hno : ∀ a : Nat, a < s.heap.size → ¬ s.heap.size ≤ a := fun a h => by omega
  refine ⟨(l, D, (fun j => if j = 0 then cI else if j = 1 then cZ else if j = 2 then cC else cR), s.heap.size, (fun j => if j = 0 then b else gs j), (fun j => if j = 0 then (L, xs) else (6, stF j))), rfl, rfl, rfl, fun j h1 _ => if_neg (by omega), rfl, ⟨hD, fun k q hk => ?_⟩, fun j hj => ?_, fun j h1 h4 => ?_, fun w hw hn => ?_, va_AO.of (hts _ ao_cr)⟩
  · match k, hk with
    | 0, hk => cases hk; exact ⟨i1, i2⟩
    | 1, hk => cases hk; exact ⟨z1, z2⟩
    | 2, hk => cases hk; exact ⟨c1, c2⟩
    | 3, hk => cases hk; exact ⟨fun N z => ⟨(fun k h => by cases h), kR, r3, comp, r4⟩, kR, comp, r3, r4, r1, r5⟩
    | k + 4, hk => simp at hk
  · by_cases h0 : j = 0
    · subst h0
      exact ⟨hX, hbl⟩
    · obtain ⟨g1, g2, g3⟩ := hg j (by omega) hj
      have e1 : (fun j => if j = 0 then b else gs j) j = gs j := if_neg h0
      have e2 : (fun j => if j = 0 then (L, xs) else (6, stF j)) j = (6, stF j) := if_neg h0
      unfold gS gR gB
      dsimp only at e1 e2 ⊢
      rw [e1, e2]
      exact ⟨g2, g3⟩
  · obtain ⟨g1, g2, g3⟩ := hg j h1 h4
    have e1 : (fun j => if j = 0 then b else gs j) j = gs j := if_neg (by omega)
    unfold gS gA gB
    dsimp only at e1 ⊢
    rw [e1]
    have k3 : j = 1 ∨ j = 2 ∨ j = 3 := by omega
    rcases k3 with rfl | rfl | rfl
    · exact va_Zref (hts _ lst_1) (hts _ in_cc) g1 hno
    · exact va_Zref (hts _ lst_2) (hts _ in_cc) g1 hno
    · exact va_Zref (hts _ lst_3) (hts _ in_cc) g1 hno
  · refine va_Nw.of ?_ (hts w hw)
    cases w <;> first | rfl | (exfalso; exact Bool.noConfusion hn)
theorem gdm_0 {G : Gx} {L : Nat} {xs : Zz} (h0 : gR G 0 = (L, xs)) (h1 : ∀ j, 1 ≤ j → j < 4 → gR G j = (6, stF j)) : gdm G 0 (w0L L xs) := by
  refine ⟨by decide, fun i e he => Or.inr ?_⟩
  unfold w0L at he
  by_cases q0 : i = 1000
  · rw [if_pos q0] at he
    cases he
    exact ⟨0, by decide, q0, by rw [h0]⟩
  · rw [if_neg q0] at he
    by_cases q1 : i = 1001
    · rw [if_pos q1] at he
      cases he
      exact ⟨1, by decide, q1, by rw [h1 1 (by decide) (by decide)]; rfl⟩
    · rw [if_neg q1] at he
      by_cases q2 : i = 1002
      · rw [if_pos q2] at he
        cases he
        exact ⟨2, by decide, q2, by rw [h1 2 (by decide) (by decide)]; rfl⟩
      · rw [if_neg q2] at he
        by_cases q3 : i = 1003
        · rw [if_pos q3] at he
          cases he
          exact ⟨3, by decide, q3, by rw [h1 3 (by decide) (by decide)]; rfl⟩
        · rw [if_neg q3] at he
          cases he
set_option maxRecDepth 100000 in
/-- from the entry, for every script of at most 260 ints, the law comes to its end with true -/
theorem whole_start {p : Program} {e : Env} {s : State} {m : MethodId} {below : List Frame} {meth : Method} {c : Code} (l : Launch) (hflags : l.flags = flags0) {b L : Nat} {xs : Nat → Int32} (hL : L ≤ 260) (C0 : lw_At p s m meth c b L xs) : W p l e room_1 s m #[Value.ref b] below meth c s.heap [] 0 0 (lw_Z below #[Value.ref b] s) (entryFrame m ([Value.ref b] : List Value).toArray 13) := by
  obtain ⟨hx, hb, hr, hml, hown, hts, hX, hbl, hlocks, hgv⟩ := id C0
  obtain ⟨G, hgl, hgb, hgs, hg1, hg0, hKn⟩ := kn_all l hL hts hX hbl hgv
  subst hgl
  have hCx : Cx G p room_1 s m #[Value.ref b] meth c code 8 13 10 0 137 false := ⟨hx, hb, hml, hown, fun w hw => hts w (List.mem_filter.mp hw).1, hKn, hgb.symm, Nat.le_of_ble_eq_true rfl, Nat.le_of_ble_eq_true rfl, Nat.le_of_ble_eq_true rfl, Nat.le_of_ble_eq_true rfl, by decide, fun q => by cases q⟩
  have hRok : Rok G p e room_1 s m #[Value.ref b] below meth c (lw_Z below #[Value.ref b] s) code 0 (some .boolean) RtL := by
    refine ⟨?_, ?_, ?_⟩
    · intro x ty n w pc H locs ls hd hrt hn hq hnn hCu hS
      obtain ⟨hq1, hq2⟩ := hq
      cases hq1
      refine W.widen (k := 600000) (n := 7302250) (by omega) (by omega) (va_forget (fun q hq => ?_) (lw_ret hx hb hr hlocks hd))
      have := hS.2.2 q hq
      unfold gA at this
      omega
    · intro n w pc H locs ls hd hrt
      cases hrt
    · intro x n w pc H locs ls hd hrt
      cases hrt
  have hJ : LJ G (Jm G p e room_1 s m #[Value.ref b] below meth c (lw_Z below #[Value.ref b] s) 13 0 137) RtL := by
    intro K hK pc L' st n w hs
    exact snd (G := G) (p := p) (e := e) (R := room_1) (s := s) (m := m) (args := #[Value.ref b]) (below := below) (meth := meth) (c := c) (Z := lw_Z below #[Value.ref b] s) (cc := code) (o := 8) (mL := 13) (d := 10) (n0 := 0) (nm := 137) (ini := false) (rt := some .boolean) (Rt := RtL) hCx hRok hK hs
  have hst := law_start (xs := xs) (L := L) hJ hL
  have ea : ([Value.ref 1000] : List Value).map (gtv G) = [Value.ref b] := by
    show [Value.ref (gal G 1000)] = _
    rw [show gal G 1000 = gS G 0 from rfl, hgs]
  have hl := lvL_entry (G := G) (args := [Value.ref 1000]) (mL := 13) (by decide)
  rw [ea] at hl
  rw [lg_entry_eq]
  have h1 := hst ⟨Nat.le_refl _, by decide⟩ rfl s.heap [] _ ⟨fun k q hq => by simp [gwl] at hq, gdm_0 hg0 hg1⟩ va_S.rf hl
  exact h1

