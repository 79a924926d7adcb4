/-! the reference: a new one -/
theorem ak_i : akd .int = 0 := rfl
theorem ak_z : akd .boolean = 1 := rfl
theorem ak_c : akd .char = 2 := rfl
theorem tn_201 : (201 : Int32).toNatClampNeg = 201 := by decide
theorem nl_201 : ((201 : Int32) < 0) = False := eq_false (by decide)
theorem tn_1206 : (1206 : Int32).toNatClampNeg = 1206 := by decide
theorem nl_1206 : ((1206 : Int32) < 0) = False := eq_false (by decide)
theorem tn_402 : (402 : Int32).toNatClampNeg = 402 := by decide
theorem nl_402 : ((402 : Int32) < 0) = False := eq_false (by decide)
theorem nl_2 : ((2 : Int32) < 0) = False := eq_false (by decide)
theorem tn_80 : (80 : Int32).toNatClampNeg = 80 := by decide
theorem nl_80 : ((80 : Int32) < 0) = False := eq_false (by decide)
theorem nl_164 : ((164 : Int32) < 0) = False := eq_false (by decide)
theorem tn_24 : (24 : Int32).toNatClampNeg = 24 := by decide
theorem nl_24 : ((24 : Int32) < 0) = False := eq_false (by decide)
theorem nl_6 : ((6 : Int32) < 0) = False := eq_false (by decide)
theorem tn_32 : (32 : Int32).toNatClampNeg = 32 := by decide
theorem nl_32 : ((32 : Int32) < 0) = False := eq_false (by decide)
theorem nl_8 : ((8 : Int32) < 0) = False := eq_false (by decide)
theorem tn_40 : (40 : Int32).toNatClampNeg = 40 := by decide
theorem nl_40 : ((40 : Int32) < 0) = False := eq_false (by decide)
theorem nl_7 : ((7 : Int32) < 0) = False := eq_false (by decide)
def z0 : Nat → Int32 := upd (upd (upd (upd (upd (upd (fun _ => 0) 0 2) 1 20) 2 12) 3 45) 4 3) 5 2
section M14
variable {G : Gx} {d : Nat} {w : Wd} {Q : Option Value → Wd → Prop}
theorem M_init (hw : w 137 = some (.inr (.inr (7, dfl 7)))) (hQ : ∀ w', MW w' z0 (fun _ => 0) (fun _ => 0) (fun _ => 0) (fun _ => 0) (fun _ => 0) (fun _ => 0) 0 0 0 0 → FR w w' → Q none w') : T G (d + 1) 7 94 [.ref 137] 138 w Q := by
  refine T_of true hm_94 (by decide +kernel) rfl (Nat.le_of_ble_eq_true rfl) (by decide) (fun _ => rfl) ?_
  intro J hJ
  have hw' : w 137 = some (.inr (.inr (7, [.null, .null, .null, .int 0, .null, .null, .null, .int 0, .int 0, .null, .int 0]))) := hw
  have key : ∀ w2, MW w2 (fun _ => 0) (fun _ => 0) (fun _ => 0) (fun _ => 0) (fun _ => 0) (fun _ => 0) (fun _ => 0) 0 0 0 0 → FR w w2 → J 64 [.ref 137] [] 145 w2 := by
    intro w2 hM hF
    refine go_ok hJ (fun p => p == 88) 60 ?_
    simp -implicitDefEqProofs only [E_94, s_aload_n, s_invokespecial, rM_7_1, iv9, s_sipush, s_newa, (s_putf rF_7_7), ft_7_0, fn_7_0, (s_putf rF_7_13), ft_7_1, fn_7_1, (s_putf rF_7_16), ft_7_2, fn_7_2, (s_putf rF_7_19), ft_7_4, fn_7_4, s_iconst, (s_putf rF_7_22), ft_7_5, fn_7_5, s_bipush, (s_putf rF_7_26), ft_7_6, fn_7_6, (s_putf rF_7_29), ft_7_9, fn_7_9, (s_getf rF_7_7), s_iastore, s_return, i1_0, up_n, ret_b, bI_0, pk_us, pk_un, up_e, up_up, Decidable.not_not, nI_1, Int32.add_zero, Int32.zero_add, vz_0, tn_0, vz_1, tn_1, vz_2, tn_2, vz_3, tn_3, vz_4, tn_4, vz_5, tn_5, vz_6, tn_6, vz_7, tn_7, vz_8, tn_8, vz_9, tn_9, vz_10, tn_10, vz_11, tn_11, vz_12, tn_12, vz_13, tn_13, vz_14, tn_14, vz_15, tn_15, vz_160, tn_160, vz_161, tn_161, vz_162, tn_162, vz_163, tn_163, vz_164, tn_164, run_s, run_e, run_0, true_and, and_true, and_self, or_true, true_or, or_false, false_or, List.length_cons, List.length_nil, Option.toList_some, Option.toList_none, List.cons_append, List.nil_append, isI_t, isJ_t, isA_t, vI_t, nI32_t, isF_t, gF_t, sF_t, isO_t, isP_t, isP0_t, gE_t, sE_t, isR_t, gO_t, sO_t, isS_t, vS_t, isSc_t, nSc_t, pok_i, pok_o, pok_a, pok_0, pok_1, ret_i, ret_0, ret_1, ret_v, clr_i, clr_j, clr_r, clr_n, cat_i, cat_r, kk0, kk1, kk2, eq_self, Nat.reduceEqDiff, Nat.reduceLeDiff, Nat.reduceAdd, Nat.reduceLT, Nat.reduceSub, Nat.reduceMul, forall_const, imp_false, not_true_eq_false, not_false_eq_true, false_imp_iff, Nat.zero_ne_one, Nat.one_ne_zero, Bool.false_eq_true, reduceCtorEq, ne_eq, Nat.add_zero, Nat.reduceBEq, Bool.or_false, Bool.or_true, Bool.false_or, Bool.true_or, or_self, entL, List.flatMap_cons, List.flatMap_nil, List.reduceReplicate, ↓reduceIte, cat_j, lg_0, lg_1, lg_2, lg_3, lg_4, lg_5, lg_6, lg_7, lg_8, lg_9, lg_10, ls_0, ls_1, ls_2, ls_3, ls_4, ls_5, ls_6, ls_7, ls_8, ls_9, ls_10, st_0, st_1, st_2, st_3, st_4, st_5, st_6, hM.1, hM.2.1]
    refine go_ok hJ (fun _ => false) 60 ?_
    simp -implicitDefEqProofs only [E_94, s_aload_n, s_invokespecial, rM_7_1, iv9, s_sipush, s_newa, (s_putf rF_7_7), ft_7_0, fn_7_0, (s_putf rF_7_13), ft_7_1, fn_7_1, (s_putf rF_7_16), ft_7_2, fn_7_2, (s_putf rF_7_19), ft_7_4, fn_7_4, s_iconst, (s_putf rF_7_22), ft_7_5, fn_7_5, s_bipush, (s_putf rF_7_26), ft_7_6, fn_7_6, (s_putf rF_7_29), ft_7_9, fn_7_9, (s_getf rF_7_7), s_iastore, s_return, i1_0, up_n, ret_b, bI_0, pk_us, pk_un, up_e, up_up, Decidable.not_not, nI_1, Int32.add_zero, Int32.zero_add, vz_0, tn_0, vz_1, tn_1, vz_2, tn_2, vz_3, tn_3, vz_4, tn_4, vz_5, tn_5, vz_6, tn_6, vz_7, tn_7, vz_8, tn_8, vz_9, tn_9, vz_10, tn_10, vz_11, tn_11, vz_12, tn_12, vz_13, tn_13, vz_14, tn_14, vz_15, tn_15, vz_160, tn_160, vz_161, tn_161, vz_162, tn_162, vz_163, tn_163, vz_164, tn_164, run_s, run_e, run_0, true_and, and_true, and_self, or_true, true_or, or_false, false_or, List.length_cons, List.length_nil, Option.toList_some, Option.toList_none, List.cons_append, List.nil_append, isI_t, isJ_t, isA_t, vI_t, nI32_t, isF_t, gF_t, sF_t, isO_t, isP_t, isP0_t, gE_t, sE_t, isR_t, gO_t, sO_t, isS_t, vS_t, isSc_t, nSc_t, pok_i, pok_o, pok_a, pok_0, pok_1, ret_i, ret_0, ret_1, ret_v, clr_i, clr_j, clr_r, clr_n, cat_i, cat_r, kk0, kk1, kk2, eq_self, Nat.reduceEqDiff, Nat.reduceLeDiff, Nat.reduceAdd, Nat.reduceLT, Nat.reduceSub, Nat.reduceMul, forall_const, imp_false, not_true_eq_false, not_false_eq_true, false_imp_iff, Nat.zero_ne_one, Nat.one_ne_zero, Bool.false_eq_true, reduceCtorEq, ne_eq, Nat.add_zero, Nat.reduceBEq, Bool.or_false, Bool.or_true, Bool.false_or, Bool.true_or, or_self, entL, List.flatMap_cons, List.flatMap_nil, List.reduceReplicate, ↓reduceIte, cat_j, lg_0, lg_1, lg_2, lg_3, lg_4, lg_5, lg_6, lg_7, lg_8, lg_9, lg_10, ls_0, ls_1, ls_2, ls_3, ls_4, ls_5, ls_6, ls_7, ls_8, ls_9, ls_10, st_0, st_1, st_2, st_3, st_4, st_5, st_6, hM.1, hM.2.1]
    exact hQ _ (hM.uz _) (hF.tr (FR.up (by decide) (by decide)))
  refine go_ok hJ (fun p => p == 64) 60 ?_
  simp -implicitDefEqProofs only [E_94, s_aload_n, s_invokespecial, rM_7_1, iv9, s_sipush, s_newa, (s_putf rF_7_7), ft_7_0, fn_7_0, (s_putf rF_7_13), ft_7_1, fn_7_1, (s_putf rF_7_16), ft_7_2, fn_7_2, (s_putf rF_7_19), ft_7_4, fn_7_4, s_iconst, (s_putf rF_7_22), ft_7_5, fn_7_5, s_bipush, (s_putf rF_7_26), ft_7_6, fn_7_6, (s_putf rF_7_29), ft_7_9, fn_7_9, (s_getf rF_7_7), s_iastore, s_return, i1_0, up_n, ret_b, bI_0, pk_us, pk_un, up_e, up_up, Decidable.not_not, nI_1, Int32.add_zero, Int32.zero_add, vz_0, tn_0, vz_1, tn_1, vz_2, tn_2, vz_3, tn_3, vz_4, tn_4, vz_5, tn_5, vz_6, tn_6, vz_7, tn_7, vz_8, tn_8, vz_9, tn_9, vz_10, tn_10, vz_11, tn_11, vz_12, tn_12, vz_13, tn_13, vz_14, tn_14, vz_15, tn_15, vz_160, tn_160, vz_161, tn_161, vz_162, tn_162, vz_163, tn_163, vz_164, tn_164, run_s, run_e, run_0, true_and, and_true, and_self, or_true, true_or, or_false, false_or, List.length_cons, List.length_nil, Option.toList_some, Option.toList_none, List.cons_append, List.nil_append, isI_t, isJ_t, isA_t, vI_t, nI32_t, isF_t, gF_t, sF_t, isO_t, isP_t, isP0_t, gE_t, sE_t, isR_t, gO_t, sO_t, isS_t, vS_t, isSc_t, nSc_t, pok_i, pok_o, pok_a, pok_0, pok_1, ret_i, ret_0, ret_1, ret_v, clr_i, clr_j, clr_r, clr_n, cat_i, cat_r, kk0, kk1, kk2, eq_self, Nat.reduceEqDiff, Nat.reduceLeDiff, Nat.reduceAdd, Nat.reduceLT, Nat.reduceSub, Nat.reduceMul, forall_const, imp_false, not_true_eq_false, not_false_eq_true, false_imp_iff, Nat.zero_ne_one, Nat.one_ne_zero, Bool.false_eq_true, reduceCtorEq, ne_eq, Nat.add_zero, Nat.reduceBEq, Bool.or_false, Bool.or_true, Bool.false_or, Bool.true_or, or_self, entL, List.flatMap_cons, List.flatMap_nil, List.reduceReplicate, ↓reduceIte, cat_j, lg_0, lg_1, lg_2, lg_3, lg_4, lg_5, lg_6, lg_7, lg_8, lg_9, lg_10, ls_0, ls_1, ls_2, ls_3, ls_4, ls_5, ls_6, ls_7, ls_8, ls_9, ls_10, st_0, st_1, st_2, st_3, st_4, st_5, st_6, hw', ak_i, ak_z, ak_c, tn_201, tn_1206, tn_402, tn_80, tn_164, nl_201, nl_1206, nl_402, nl_2, nl_80, nl_164]
  refine key _ ⟨?_, ?_, ?_, ?_, ?_, ?_, ?_, ?_⟩ ?_
  · simp only [up_e]
  · simp only [up_e, up_n, Nat.reduceEqDiff, not_false_eq_true]
  · simp only [up_e, up_n, Nat.reduceEqDiff, not_false_eq_true]
  · simp only [up_e, up_n, Nat.reduceEqDiff, not_false_eq_true]
  · simp only [up_e, up_n, Nat.reduceEqDiff, not_false_eq_true]
  · simp only [up_e, up_n, Nat.reduceEqDiff, not_false_eq_true]
  · simp only [up_e, up_n, Nat.reduceEqDiff, not_false_eq_true]
  · simp only [up_e, up_n, Nat.reduceEqDiff, not_false_eq_true]
  · intro i hi
    have h : ∀ j, 137 ≤ j → j < 145 → ¬ i = j := fun j h1 h2 => by omega
    simp only [up_n (h 137 (by decide) (by decide)), up_n (h 138 (by decide) (by decide)), up_n (h 139 (by decide) (by decide)), up_n (h 140 (by decide) (by decide)), up_n (h 141 (by decide) (by decide)), up_n (h 142 (by decide) (by decide)), up_n (h 143 (by decide) (by decide)), up_n (h 144 (by decide) (by decide))]
end M14
