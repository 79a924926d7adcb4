/-! the class: new cranes -/
section C6
variable {G : Gx} {d b : Nat} {w : Wd} {Q : Option Value → Wd → Prop}
theorem C_ptInit (hb : b + 13 ≤ 1000) (hw : w (b + 8) = some (.inr (.inr (4, dfl 4)))) (hQ : ∀ w', w' (b + 8) = ptO b → w' (b + 9) = ar 0 32 (fun _ => 0) → w' (b + 10) = ar 0 8 (fun _ => 0) → FB (b + 8) (b + 11) w w' → Q none w') : T G (d + 1) 2 39 [.ref (b + 8)] (b + 9) w Q := by
  refine T_of true hm_39 (by decide +kernel) rfl (Nat.le_of_ble_eq_true rfl) (by omega) (fun _ => rfl) ?_
  intro J hJ
  have hw' : w (b + 8) = some (.inr (.inr (4, [.null, .null]))) := hw
  refine go_ok hJ (fun _ => false) 60 ?_
  simp -implicitDefEqProofs only [E_39, s_aload_n, s_invokespecial, rM_4_3, iv9, s_bipush, s_newa, (s_putf rF_4_9), ft_4_0, fn_4_0, (s_putf rF_4_15), ft_4_1, fn_4_1, s_return, i1_0, up_n, ret_b, bI_0, pk_us, pk_un, up_e, up_up, Decidable.not_not, nI_1, Int32.add_zero, Int32.zero_add, vz_0, tn_0, vz_1, tn_1, vz_2, tn_2, vz_3, tn_3, vz_4, tn_4, vz_5, tn_5, vz_6, tn_6, vz_7, tn_7, vz_8, tn_8, vz_9, tn_9, vz_10, tn_10, vz_11, tn_11, vz_12, tn_12, vz_13, tn_13, vz_14, tn_14, vz_15, tn_15, vz_160, tn_160, vz_161, tn_161, vz_162, tn_162, vz_163, tn_163, vz_164, tn_164, vs_0, vs_1, vs_2, vs_3, vs_4, vs_5, run_s, run_e, run_0, true_and, and_true, and_self, or_true, true_or, or_false, false_or, List.length_cons, List.length_nil, Option.toList_some, Option.toList_none, List.cons_append, List.nil_append, isI_t, isJ_t, isA_t, vI_t, nI32_t, isF_t, gF_t, sF_t, isO_t, isP_t, isP0_t, gE_t, sE_t, isR_t, gO_t, sO_t, isS_t, vS_t, isSc_t, nSc_t, pok_i, pok_o, pok_a, pok_0, pok_1, ret_i, ret_0, ret_1, ret_v, clr_i, clr_j, clr_r, clr_n, cat_i, cat_r, kk0, kk1, kk2, eq_self, Nat.reduceEqDiff, Nat.reduceLeDiff, Nat.reduceAdd, Nat.reduceLT, Nat.reduceSub, Nat.reduceMul, forall_const, imp_false, not_true_eq_false, not_false_eq_true, false_imp_iff, Nat.zero_ne_one, Nat.one_ne_zero, Bool.false_eq_true, reduceCtorEq, ne_eq, Nat.add_zero, Nat.reduceBEq, Bool.or_false, Bool.or_true, Bool.false_or, Bool.true_or, or_self, entL, List.flatMap_cons, List.flatMap_nil, List.reduceReplicate, ↓reduceIte, cat_j, lg_0, lg_1, lg_2, lg_3, lg_4, lg_5, lg_6, lg_7, lg_8, lg_9, lg_10, lg_11, lg_12, lg_13, lg_14, lg_15, lg_16, ls_0, ls_1, ls_2, ls_3, ls_4, ls_5, ls_6, ls_7, ls_8, ls_9, ls_10, ls_11, ls_12, ls_13, ls_14, ls_15, ls_16, st_0, st_1, st_2, st_3, st_4, st_5, st_6, st_7, st_8, st_9, st_10, st_11, st_12, st_13, st_14, st_15, hw', ak_i, tn_32, nl_32, nl_8, Nat.add_assoc, Nat.add_left_cancel_iff]
  refine ⟨by omega, by omega, hQ _ ?_ ?_ ?_ ?_⟩
  · simp only [up_e, up_n, Nat.add_left_cancel_iff, Nat.reduceEqDiff, not_false_eq_true]
  · simp only [up_e, up_n, Nat.add_left_cancel_iff, Nat.reduceEqDiff, not_false_eq_true]
  · simp only [up_e, up_n, Nat.add_left_cancel_iff, Nat.reduceEqDiff, not_false_eq_true]
  · exact (((FB.up (by omega) (by omega)).tr (FB.up (by omega) (by omega))).tr (FB.up (by omega) (by omega))).tr (FB.up (by omega) (by omega))
theorem C_diInit (hb : b + 13 ≤ 1000) (hw : w (b + 11) = some (.inr (.inr (1, dfl 1)))) (hQ : ∀ w', w' (b + 11) = diO b 0 0 → w' (b + 12) = ar 0 40 (fun _ => 0) → FB (b + 11) (b + 13) w w' → Q none w') : T G (d + 1) 1 17 [.ref (b + 11)] (b + 12) w Q := by
  refine T_of true hm_17 (by decide +kernel) rfl (Nat.le_of_ble_eq_true rfl) (by omega) (fun _ => rfl) ?_
  intro J hJ
  have hw' : w (b + 11) = some (.inr (.inr (1, [.null, .int 0, .int 0]))) := hw
  refine go_ok hJ (fun _ => false) 60 ?_
  simp -implicitDefEqProofs only [E_17, s_aload_n, s_invokespecial, rM_1_3, iv9, s_bipush, s_newa, (s_putf rF_1_9), ft_1_0, fn_1_0, s_return, i1_0, up_n, ret_b, bI_0, pk_us, pk_un, up_e, up_up, Decidable.not_not, nI_1, Int32.add_zero, Int32.zero_add, vz_0, tn_0, vz_1, tn_1, vz_2, tn_2, vz_3, tn_3, vz_4, tn_4, vz_5, tn_5, vz_6, tn_6, vz_7, tn_7, vz_8, tn_8, vz_9, tn_9, vz_10, tn_10, vz_11, tn_11, vz_12, tn_12, vz_13, tn_13, vz_14, tn_14, vz_15, tn_15, vz_160, tn_160, vz_161, tn_161, vz_162, tn_162, vz_163, tn_163, vz_164, tn_164, vs_0, vs_1, vs_2, vs_3, vs_4, vs_5, run_s, run_e, run_0, true_and, and_true, and_self, or_true, true_or, or_false, false_or, List.length_cons, List.length_nil, Option.toList_some, Option.toList_none, List.cons_append, List.nil_append, isI_t, isJ_t, isA_t, vI_t, nI32_t, isF_t, gF_t, sF_t, isO_t, isP_t, isP0_t, gE_t, sE_t, isR_t, gO_t, sO_t, isS_t, vS_t, isSc_t, nSc_t, pok_i, pok_o, pok_a, pok_0, pok_1, ret_i, ret_0, ret_1, ret_v, clr_i, clr_j, clr_r, clr_n, cat_i, cat_r, kk0, kk1, kk2, eq_self, Nat.reduceEqDiff, Nat.reduceLeDiff, Nat.reduceAdd, Nat.reduceLT, Nat.reduceSub, Nat.reduceMul, forall_const, imp_false, not_true_eq_false, not_false_eq_true, false_imp_iff, Nat.zero_ne_one, Nat.one_ne_zero, Bool.false_eq_true, reduceCtorEq, ne_eq, Nat.add_zero, Nat.reduceBEq, Bool.or_false, Bool.or_true, Bool.false_or, Bool.true_or, or_self, entL, List.flatMap_cons, List.flatMap_nil, List.reduceReplicate, ↓reduceIte, cat_j, lg_0, lg_1, lg_2, lg_3, lg_4, lg_5, lg_6, lg_7, lg_8, lg_9, lg_10, lg_11, lg_12, lg_13, lg_14, lg_15, lg_16, ls_0, ls_1, ls_2, ls_3, ls_4, ls_5, ls_6, ls_7, ls_8, ls_9, ls_10, ls_11, ls_12, ls_13, ls_14, ls_15, ls_16, st_0, st_1, st_2, st_3, st_4, st_5, st_6, st_7, st_8, st_9, st_10, st_11, st_12, st_13, st_14, st_15, hw', ak_i, tn_40, nl_40, Nat.add_assoc, Nat.add_left_cancel_iff]
  refine ⟨by omega, hQ _ ?_ ?_ ?_⟩
  · simp only [up_e, up_n, Nat.add_left_cancel_iff, Nat.reduceEqDiff, not_false_eq_true]
  · simp only [up_e, up_n, Nat.add_left_cancel_iff, Nat.reduceEqDiff, not_false_eq_true]
  · exact (FB.up (by omega) (by omega)).tr (FB.up (by omega) (by omega))
theorem C_piInit (hb : b + 13 ≤ 1000) (hw : w (b + 2) = some (.inr (.inr (5, dfl 5)))) (hQ : ∀ w', w' (b + 2) = piO b 0 0 → (∀ j, j < 5 → w' (b + (3 + j)) = ar 0 24 (fun _ => 0)) → FB (b + 2) (b + 8) w w' → Q none w') : T G (d + 1) 5 51 [.ref (b + 2)] (b + 3) w Q := by
  refine T_of true hm_51 (by decide +kernel) rfl (Nat.le_of_ble_eq_true rfl) (by omega) (fun _ => rfl) ?_
  intro J hJ
  have hw' : w (b + 2) = some (.inr (.inr (5, [.null, .null, .null, .null, .null, .int 0, .int 0]))) := hw
  refine go_ok hJ (fun _ => false) 60 ?_
  simp -implicitDefEqProofs only [E_51, s_aload_n, s_invokespecial, rM_5_3, iv9, s_bipush, s_newa, (s_putf rF_5_9), ft_5_0, fn_5_0, (s_putf rF_5_15), ft_5_1, fn_5_1, (s_putf rF_5_18), ft_5_2, fn_5_2, (s_putf rF_5_21), ft_5_3, fn_5_3, (s_putf rF_5_24), ft_5_4, fn_5_4, s_return, i1_0, up_n, ret_b, bI_0, pk_us, pk_un, up_e, up_up, Decidable.not_not, nI_1, Int32.add_zero, Int32.zero_add, vz_0, tn_0, vz_1, tn_1, vz_2, tn_2, vz_3, tn_3, vz_4, tn_4, vz_5, tn_5, vz_6, tn_6, vz_7, tn_7, vz_8, tn_8, vz_9, tn_9, vz_10, tn_10, vz_11, tn_11, vz_12, tn_12, vz_13, tn_13, vz_14, tn_14, vz_15, tn_15, vz_160, tn_160, vz_161, tn_161, vz_162, tn_162, vz_163, tn_163, vz_164, tn_164, vs_0, vs_1, vs_2, vs_3, vs_4, vs_5, run_s, run_e, run_0, true_and, and_true, and_self, or_true, true_or, or_false, false_or, List.length_cons, List.length_nil, Option.toList_some, Option.toList_none, List.cons_append, List.nil_append, isI_t, isJ_t, isA_t, vI_t, nI32_t, isF_t, gF_t, sF_t, isO_t, isP_t, isP0_t, gE_t, sE_t, isR_t, gO_t, sO_t, isS_t, vS_t, isSc_t, nSc_t, pok_i, pok_o, pok_a, pok_0, pok_1, ret_i, ret_0, ret_1, ret_v, clr_i, clr_j, clr_r, clr_n, cat_i, cat_r, kk0, kk1, kk2, eq_self, Nat.reduceEqDiff, Nat.reduceLeDiff, Nat.reduceAdd, Nat.reduceLT, Nat.reduceSub, Nat.reduceMul, forall_const, imp_false, not_true_eq_false, not_false_eq_true, false_imp_iff, Nat.zero_ne_one, Nat.one_ne_zero, Bool.false_eq_true, reduceCtorEq, ne_eq, Nat.add_zero, Nat.reduceBEq, Bool.or_false, Bool.or_true, Bool.false_or, Bool.true_or, or_self, entL, List.flatMap_cons, List.flatMap_nil, List.reduceReplicate, ↓reduceIte, cat_j, lg_0, lg_1, lg_2, lg_3, lg_4, lg_5, lg_6, lg_7, lg_8, lg_9, lg_10, lg_11, lg_12, lg_13, lg_14, lg_15, lg_16, ls_0, ls_1, ls_2, ls_3, ls_4, ls_5, ls_6, ls_7, ls_8, ls_9, ls_10, ls_11, ls_12, ls_13, ls_14, ls_15, ls_16, st_0, st_1, st_2, st_3, st_4, st_5, st_6, st_7, st_8, st_9, st_10, st_11, st_12, st_13, st_14, st_15, hw', ak_i, tn_24, nl_24, Nat.add_assoc, Nat.add_left_cancel_iff]
  refine ⟨by omega, by omega, by omega, by omega, by omega, hQ _ ?_ ?_ ?_⟩
  · simp only [up_e, up_n, Nat.add_left_cancel_iff, Nat.reduceEqDiff, not_false_eq_true]
  · intro j hj
    rcases (show j = 0 ∨ j = 1 ∨ j = 2 ∨ j = 3 ∨ j = 4 by omega) with rfl | rfl | rfl | rfl | rfl <;> simp only [up_e, up_n, Nat.add_left_cancel_iff, Nat.reduceEqDiff, not_false_eq_true, Nat.reduceAdd]
  · intro i hi
    have h : ∀ j, 2 ≤ j → j < 8 → ¬ i = b + j := fun j h1 h2 => by omega
    simp only [up_n (h 2 (by decide) (by decide)), up_n (h 3 (by decide) (by decide)), up_n (h 4 (by decide) (by decide)), up_n (h 5 (by decide) (by decide)), up_n (h 6 (by decide) (by decide)), up_n (h 7 (by decide) (by decide))]
def yN (fs : Nat → Int32) : Nat → Nat → Int32 := fun i => if i = 1 then va_cpy fs (fun _ => 0) 0 0 6 else fun _ => 0
theorem C_crInit {fs : Nat → Int32} (hb : b + 13 ≤ 1000) (h1 : w 1001 = ar 4 6 fs) (hw : w b = some (.inr (.inr (0, dfl 0)))) (hQ : ∀ w', CR b w' (yN fs) → FB b (b + 13) w w' → Q none w') : T G (d + 2) 12 0 [.ref b] (b + 1) w Q := by
  refine T_of true hm_0 (by decide +kernel) rfl (Nat.le_of_ble_eq_true rfl) (by omega) (fun _ => rfl) ?_
  intro J hJ
  have hw' : w b = some (.inr (.inr (0, [.null, .null, .null, .null, .int 0, .int 0, .int 0, .int 0, .int 0, .int 0, .int 0]))) := hw
  have m0 : ∀ j, j < 12 → ¬ b = b + (j + 1) := fun j _ => by omega
  have m1 : ∀ j, j < 12 → ¬ b + (j + 1) = b := fun j _ => by omega
  refine go_ok hJ (fun _ => false) 60 ?_
  simp -implicitDefEqProofs only [E_0, s_aload_n, s_invokespecial, rM_0_3, iv9, s_bipush, s_newa, (s_putf rF_0_9), ft_0_0, fn_0_0, (s_new rC_0_15), s_dup, rM_0_17, iv3_1, hc_51, (s_putf rF_0_18), ft_0_1, fn_0_1, (s_new rC_0_22), rM_0_24, hc_39, (s_putf rF_0_25), ft_0_2, fn_0_2, (s_new rC_0_29), rM_0_31, hc_17, (s_putf rF_0_32), ft_0_3, fn_0_3, (s_gets rS_0_36), s_iconst, (s_getf rF_0_9), s_invokestatic, rM_0_39, iv10, isCp_t, cpE_t, s_return, i1_0, up_n, ret_b, bI_0, pk_us, pk_un, up_e, up_up, Decidable.not_not, nI_1, Int32.add_zero, Int32.zero_add, vz_0, tn_0, vz_1, tn_1, vz_2, tn_2, vz_3, tn_3, vz_4, tn_4, vz_5, tn_5, vz_6, tn_6, vz_7, tn_7, vz_8, tn_8, vz_9, tn_9, vz_10, tn_10, vz_11, tn_11, vz_12, tn_12, vz_13, tn_13, vz_14, tn_14, vz_15, tn_15, vz_160, tn_160, vz_161, tn_161, vz_162, tn_162, vz_163, tn_163, vz_164, tn_164, vs_0, vs_1, vs_2, vs_3, vs_4, vs_5, run_s, run_e, run_0, true_and, and_true, and_self, or_true, true_or, or_false, false_or, List.length_cons, List.length_nil, Option.toList_some, Option.toList_none, List.cons_append, List.nil_append, isI_t, isJ_t, isA_t, vI_t, nI32_t, isF_t, gF_t, sF_t, isO_t, isP_t, isP0_t, gE_t, sE_t, isR_t, gO_t, sO_t, isS_t, vS_t, isSc_t, nSc_t, pok_i, pok_o, pok_a, pok_0, pok_1, ret_i, ret_0, ret_1, ret_v, clr_i, clr_j, clr_r, clr_n, cat_i, cat_r, kk0, kk1, kk2, eq_self, Nat.reduceEqDiff, Nat.reduceLeDiff, Nat.reduceAdd, Nat.reduceLT, Nat.reduceSub, Nat.reduceMul, forall_const, imp_false, not_true_eq_false, not_false_eq_true, false_imp_iff, Nat.zero_ne_one, Nat.one_ne_zero, Bool.false_eq_true, reduceCtorEq, ne_eq, Nat.add_zero, Nat.reduceBEq, Bool.or_false, Bool.or_true, Bool.false_or, Bool.true_or, or_self, entL, List.flatMap_cons, List.flatMap_nil, List.reduceReplicate, ↓reduceIte, cat_j, lg_0, lg_1, lg_2, lg_3, lg_4, lg_5, lg_6, lg_7, lg_8, lg_9, lg_10, lg_11, lg_12, lg_13, lg_14, lg_15, lg_16, ls_0, ls_1, ls_2, ls_3, ls_4, ls_5, ls_6, ls_7, ls_8, ls_9, ls_10, ls_11, ls_12, ls_13, ls_14, ls_15, ls_16, st_0, st_1, st_2, st_3, st_4, st_5, st_6, st_7, st_8, st_9, st_10, st_11, st_12, st_13, st_14, st_15, hw', ak_i, tn_6, nl_6, m0, m1, Nat.add_assoc, Nat.add_left_cancel_iff]
  refine ⟨by omega, by omega, 5, by omega, ?_⟩
  refine C_piInit hb ?_ fun w1 a1 a2 a3 => ?_
  · simp only [up_e]
  have k0 : w1 b = some (.inr (.inr (0, [.ref (b + 1), .null, .null, .null, .int 0, .int 0, .int 0, .int 0, .int 0, .int 0, .int 0]))) := by
    rw [a3 b (by omega)]
    simp only [up_e, up_n, m0, not_false_eq_true, Nat.lt_irrefl, Nat.reduceLT]
  have k1 : w1 (b + 1) = ar 0 6 (fun _ => 0) := by
    rw [a3 (b + 1) (by omega)]
    simp only [up_e, up_n, m1 0 (by decide), Nat.add_left_cancel_iff, Nat.reduceEqDiff, not_false_eq_true]
  have kf : FB b (b + 13) w w1 := by
    intro i hi
    rw [a3 i (by omega), up_n (by omega), up_n (by omega), up_n (by omega)]
  have hp : ∀ j, j < 5 → w1 (b + (3 + j)) = ar 0 24 (fun _ => 0) := a2
  clear a2 a3
  refine go_ok hJ (fun _ => false) 60 ?_
  simp -implicitDefEqProofs only [E_0, s_aload_n, s_invokespecial, rM_0_3, iv9, s_bipush, s_newa, (s_putf rF_0_9), ft_0_0, fn_0_0, (s_new rC_0_15), s_dup, rM_0_17, iv3_1, hc_51, (s_putf rF_0_18), ft_0_1, fn_0_1, (s_new rC_0_22), rM_0_24, hc_39, (s_putf rF_0_25), ft_0_2, fn_0_2, (s_new rC_0_29), rM_0_31, hc_17, (s_putf rF_0_32), ft_0_3, fn_0_3, (s_gets rS_0_36), s_iconst, (s_getf rF_0_9), s_invokestatic, rM_0_39, iv10, isCp_t, cpE_t, s_return, i1_0, up_n, ret_b, bI_0, pk_us, pk_un, up_e, up_up, Decidable.not_not, nI_1, Int32.add_zero, Int32.zero_add, vz_0, tn_0, vz_1, tn_1, vz_2, tn_2, vz_3, tn_3, vz_4, tn_4, vz_5, tn_5, vz_6, tn_6, vz_7, tn_7, vz_8, tn_8, vz_9, tn_9, vz_10, tn_10, vz_11, tn_11, vz_12, tn_12, vz_13, tn_13, vz_14, tn_14, vz_15, tn_15, vz_160, tn_160, vz_161, tn_161, vz_162, tn_162, vz_163, tn_163, vz_164, tn_164, vs_0, vs_1, vs_2, vs_3, vs_4, vs_5, run_s, run_e, run_0, true_and, and_true, and_self, or_true, true_or, or_false, false_or, List.length_cons, List.length_nil, Option.toList_some, Option.toList_none, List.cons_append, List.nil_append, isI_t, isJ_t, isA_t, vI_t, nI32_t, isF_t, gF_t, sF_t, isO_t, isP_t, isP0_t, gE_t, sE_t, isR_t, gO_t, sO_t, isS_t, vS_t, isSc_t, nSc_t, pok_i, pok_o, pok_a, pok_0, pok_1, ret_i, ret_0, ret_1, ret_v, clr_i, clr_j, clr_r, clr_n, cat_i, cat_r, kk0, kk1, kk2, eq_self, Nat.reduceEqDiff, Nat.reduceLeDiff, Nat.reduceAdd, Nat.reduceLT, Nat.reduceSub, Nat.reduceMul, forall_const, imp_false, not_true_eq_false, not_false_eq_true, false_imp_iff, Nat.zero_ne_one, Nat.one_ne_zero, Bool.false_eq_true, reduceCtorEq, ne_eq, Nat.add_zero, Nat.reduceBEq, Bool.or_false, Bool.or_true, Bool.false_or, Bool.true_or, or_self, entL, List.flatMap_cons, List.flatMap_nil, List.reduceReplicate, ↓reduceIte, cat_j, lg_0, lg_1, lg_2, lg_3, lg_4, lg_5, lg_6, lg_7, lg_8, lg_9, lg_10, lg_11, lg_12, lg_13, lg_14, lg_15, lg_16, ls_0, ls_1, ls_2, ls_3, ls_4, ls_5, ls_6, ls_7, ls_8, ls_9, ls_10, ls_11, ls_12, ls_13, ls_14, ls_15, ls_16, st_0, st_1, st_2, st_3, st_4, st_5, st_6, st_7, st_8, st_9, st_10, st_11, st_12, st_13, st_14, st_15, k0, m0, m1, Nat.add_assoc, Nat.add_left_cancel_iff]
  refine ⟨by omega, 2, by omega, ?_⟩
  refine C_ptInit hb ?_ fun w2 c1 c2 c3 c4 => ?_
  · simp only [up_e]
  have l0 : w2 b = some (.inr (.inr (0, [.ref (b + 1), .ref (b + 2), .null, .null, .int 0, .int 0, .int 0, .int 0, .int 0, .int 0, .int 0]))) := by
    rw [c4 b (by omega)]
    simp only [up_e, up_n, m0, not_false_eq_true, Nat.lt_irrefl, Nat.reduceLT]
  have l1 : ∀ j, j < 7 → w2 (b + (j + 1)) = w1 (b + (j + 1)) := by
    intro j hj
    rw [c4 _ (by omega), up_n (by omega), up_n (by omega)]
  have lf : FB b (b + 13) w w2 := by
    intro i hi
    rw [c4 i (by omega), up_n (by omega), up_n (by omega)]
    exact kf i hi
  clear c4
  refine go_ok hJ (fun _ => false) 60 ?_
  simp -implicitDefEqProofs only [E_0, s_aload_n, s_invokespecial, rM_0_3, iv9, s_bipush, s_newa, (s_putf rF_0_9), ft_0_0, fn_0_0, (s_new rC_0_15), s_dup, rM_0_17, iv3_1, hc_51, (s_putf rF_0_18), ft_0_1, fn_0_1, (s_new rC_0_22), rM_0_24, hc_39, (s_putf rF_0_25), ft_0_2, fn_0_2, (s_new rC_0_29), rM_0_31, hc_17, (s_putf rF_0_32), ft_0_3, fn_0_3, (s_gets rS_0_36), s_iconst, (s_getf rF_0_9), s_invokestatic, rM_0_39, iv10, isCp_t, cpE_t, s_return, i1_0, up_n, ret_b, bI_0, pk_us, pk_un, up_e, up_up, Decidable.not_not, nI_1, Int32.add_zero, Int32.zero_add, vz_0, tn_0, vz_1, tn_1, vz_2, tn_2, vz_3, tn_3, vz_4, tn_4, vz_5, tn_5, vz_6, tn_6, vz_7, tn_7, vz_8, tn_8, vz_9, tn_9, vz_10, tn_10, vz_11, tn_11, vz_12, tn_12, vz_13, tn_13, vz_14, tn_14, vz_15, tn_15, vz_160, tn_160, vz_161, tn_161, vz_162, tn_162, vz_163, tn_163, vz_164, tn_164, vs_0, vs_1, vs_2, vs_3, vs_4, vs_5, run_s, run_e, run_0, true_and, and_true, and_self, or_true, true_or, or_false, false_or, List.length_cons, List.length_nil, Option.toList_some, Option.toList_none, List.cons_append, List.nil_append, isI_t, isJ_t, isA_t, vI_t, nI32_t, isF_t, gF_t, sF_t, isO_t, isP_t, isP0_t, gE_t, sE_t, isR_t, gO_t, sO_t, isS_t, vS_t, isSc_t, nSc_t, pok_i, pok_o, pok_a, pok_0, pok_1, ret_i, ret_0, ret_1, ret_v, clr_i, clr_j, clr_r, clr_n, cat_i, cat_r, kk0, kk1, kk2, eq_self, Nat.reduceEqDiff, Nat.reduceLeDiff, Nat.reduceAdd, Nat.reduceLT, Nat.reduceSub, Nat.reduceMul, forall_const, imp_false, not_true_eq_false, not_false_eq_true, false_imp_iff, Nat.zero_ne_one, Nat.one_ne_zero, Bool.false_eq_true, reduceCtorEq, ne_eq, Nat.add_zero, Nat.reduceBEq, Bool.or_false, Bool.or_true, Bool.false_or, Bool.true_or, or_self, entL, List.flatMap_cons, List.flatMap_nil, List.reduceReplicate, ↓reduceIte, cat_j, lg_0, lg_1, lg_2, lg_3, lg_4, lg_5, lg_6, lg_7, lg_8, lg_9, lg_10, lg_11, lg_12, lg_13, lg_14, lg_15, lg_16, ls_0, ls_1, ls_2, ls_3, ls_4, ls_5, ls_6, ls_7, ls_8, ls_9, ls_10, ls_11, ls_12, ls_13, ls_14, ls_15, ls_16, st_0, st_1, st_2, st_3, st_4, st_5, st_6, st_7, st_8, st_9, st_10, st_11, st_12, st_13, st_14, st_15, l0, m0, m1, Nat.add_assoc, Nat.add_left_cancel_iff]
  refine ⟨by omega, 1, by omega, ?_⟩
  refine C_diInit hb ?_ fun w3 e1 e2 e3 => ?_
  · simp only [up_e]
  have p0 : w3 b = some (.inr (.inr (0, [.ref (b + 1), .ref (b + 2), .ref (b + 8), .null, .int 0, .int 0, .int 0, .int 0, .int 0, .int 0, .int 0]))) := by
    rw [e3 b (by omega)]
    simp only [up_e, up_n, m0, not_false_eq_true, Nat.lt_irrefl, Nat.reduceLT]
  have p1 : ∀ j, j < 10 → w3 (b + (j + 1)) = w2 (b + (j + 1)) := by
    intro j hj
    rw [e3 _ (by omega), up_n (by omega), up_n (by omega)]
  have pf : FB b (b + 13) w w3 := by
    intro i hi
    rw [e3 i (by omega), up_n (by omega), up_n (by omega)]
    exact lf i hi
  have q1 : w3 (b + 1) = ar 0 6 (fun _ => 0) := ((p1 0 (by decide)).trans (l1 0 (by decide))).trans k1
  have q1001 : b + 13 ≤ 1001 → w3 1001 = ar 4 6 fs := fun h => (pf 1001 (Or.inr h)).trans h1
  have n1001 : ¬ 1001 = b := by omega
  have k6 : (6 : Int32).toNatClampNeg = 6 := rfl
  have k0' : (0 : Int32).toNatClampNeg = 0 := rfl
  refine go_ok hJ (fun _ => false) 60 ?_
  simp -implicitDefEqProofs only [E_0, s_aload_n, s_invokespecial, rM_0_3, iv9, s_bipush, s_newa, (s_putf rF_0_9), ft_0_0, fn_0_0, (s_new rC_0_15), s_dup, rM_0_17, iv3_1, hc_51, (s_putf rF_0_18), ft_0_1, fn_0_1, (s_new rC_0_22), rM_0_24, hc_39, (s_putf rF_0_25), ft_0_2, fn_0_2, (s_new rC_0_29), rM_0_31, hc_17, (s_putf rF_0_32), ft_0_3, fn_0_3, (s_gets rS_0_36), s_iconst, (s_getf rF_0_9), s_invokestatic, rM_0_39, iv10, isCp_t, cpE_t, s_return, i1_0, up_n, ret_b, bI_0, pk_us, pk_un, up_e, up_up, Decidable.not_not, nI_1, Int32.add_zero, Int32.zero_add, vz_0, tn_0, vz_1, tn_1, vz_2, tn_2, vz_3, tn_3, vz_4, tn_4, vz_5, tn_5, vz_6, tn_6, vz_7, tn_7, vz_8, tn_8, vz_9, tn_9, vz_10, tn_10, vz_11, tn_11, vz_12, tn_12, vz_13, tn_13, vz_14, tn_14, vz_15, tn_15, vz_160, tn_160, vz_161, tn_161, vz_162, tn_162, vz_163, tn_163, vz_164, tn_164, vs_0, vs_1, vs_2, vs_3, vs_4, vs_5, run_s, run_e, run_0, true_and, and_true, and_self, or_true, true_or, or_false, false_or, List.length_cons, List.length_nil, Option.toList_some, Option.toList_none, List.cons_append, List.nil_append, isI_t, isJ_t, isA_t, vI_t, nI32_t, isF_t, gF_t, sF_t, isO_t, isP_t, isP0_t, gE_t, sE_t, isR_t, gO_t, sO_t, isS_t, vS_t, isSc_t, nSc_t, pok_i, pok_o, pok_a, pok_0, pok_1, ret_i, ret_0, ret_1, ret_v, clr_i, clr_j, clr_r, clr_n, cat_i, cat_r, kk0, kk1, kk2, eq_self, Nat.reduceEqDiff, Nat.reduceLeDiff, Nat.reduceAdd, Nat.reduceLT, Nat.reduceSub, Nat.reduceMul, forall_const, imp_false, not_true_eq_false, not_false_eq_true, false_imp_iff, Nat.zero_ne_one, Nat.one_ne_zero, Bool.false_eq_true, reduceCtorEq, ne_eq, Nat.add_zero, Nat.reduceBEq, Bool.or_false, Bool.or_true, Bool.false_or, Bool.true_or, or_self, entL, List.flatMap_cons, List.flatMap_nil, List.reduceReplicate, ↓reduceIte, cat_j, lg_0, lg_1, lg_2, lg_3, lg_4, lg_5, lg_6, lg_7, lg_8, lg_9, lg_10, lg_11, lg_12, lg_13, lg_14, lg_15, lg_16, ls_0, ls_1, ls_2, ls_3, ls_4, ls_5, ls_6, ls_7, ls_8, ls_9, ls_10, ls_11, ls_12, ls_13, ls_14, ls_15, ls_16, st_0, st_1, st_2, st_3, st_4, st_5, st_6, st_7, st_8, st_9, st_10, st_11, st_12, st_13, st_14, st_15, p0, q1, q1001 (by omega), n1001, m0, m1, k6, k0', Nat.add_assoc, Nat.add_left_cancel_iff, Nat.le_refl, Nat.zero_add, show ¬ (6 : Int32) < 0 by decide, show ¬ (0 : Int32) < 0 by decide]
  refine hQ _ ?_ ?_
  · intro j hj
    rcases lt13 hj with rfl | rfl | rfl | rfl | rfl | rfl | rfl | rfl | rfl | rfl | rfl | rfl | rfl
    · simp only [up_e, up_n, m0, not_false_eq_true, Nat.add_zero, Nat.reduceLT]
      rfl
    · rw [up_e]
      rfl
    · rw [up_n (by omega), up_n (by omega), p1 1 (by decide), l1 1 (by decide)]
      exact a1
    · rw [up_n (by omega), up_n (by omega), p1 2 (by decide), l1 2 (by decide)]
      exact hp 0 (by decide)
    · rw [up_n (by omega), up_n (by omega), p1 3 (by decide), l1 3 (by decide)]
      exact hp 1 (by decide)
    · rw [up_n (by omega), up_n (by omega), p1 4 (by decide), l1 4 (by decide)]
      exact hp 2 (by decide)
    · rw [up_n (by omega), up_n (by omega), p1 5 (by decide), l1 5 (by decide)]
      exact hp 3 (by decide)
    · rw [up_n (by omega), up_n (by omega), p1 6 (by decide), l1 6 (by decide)]
      exact hp 4 (by decide)
    · rw [up_n (by omega), up_n (by omega), p1 7 (by decide)]
      exact c1
    · rw [up_n (by omega), up_n (by omega), p1 8 (by decide)]
      exact c2
    · rw [up_n (by omega), up_n (by omega), p1 9 (by decide)]
      exact c3
    · rw [up_n (by omega), up_n (by omega)]
      exact e1
    · rw [up_n (by omega), up_n (by omega)]
      exact e2
  · exact pf.tr ((FB.up (by omega) (by omega)).tr (FB.up (by omega) (by omega)))
end C6
