/-! the class: signs put down, faults told -/
theorem and255 (x : Int64) : 0 ≤ (x &&& 255).toInt ∧ (x &&& 255).toInt < 256 := by
  have h0 : (x &&& 255).toBitVec.toNat < 256 := by
    rw [Int64.toBitVec_and, BitVec.toNat_and]
    exact Nat.lt_of_le_of_lt Nat.and_le_right (by decide)
  have h1 : (x &&& 255).toInt = ((x &&& 255).toBitVec.toNat : Int) := BitVec.toInt_eq_toNat_of_lt (by omega)
  rw [h1]
  omega
theorem and255i (x : Int64) : (x &&& 255).toInt32.toInt = (x &&& 255).toInt := by
  have h := and255 x
  rw [Int64.toInt_toInt32, Int.bmod_eq_of_le (by omega) (by omega)]
theorem byt_iff (x : Int64) : (33 ≤ byt x ∧ byt x ≤ 126) ↔ (¬ lg_cmp (x &&& 255) 33 < 0 ∧ lg_cmp (x &&& 255) 126 ≤ 0) := by
  unfold byt
  rw [lg_cmp_lt, lg_cmp_le, Int32.le_iff_toInt_le, Int32.le_iff_toInt_le, and255i, Int64.lt_iff_toInt_lt, Int64.le_iff_toInt_le]
  have e1 : (33 : Int32).toInt = 33 := rfl
  have e2 : (126 : Int32).toInt = 126 := rfl
  have e3 : (33 : Int64).toInt = 33 := rfl
  have e4 : (126 : Int64).toInt = 126 := rfl
  rw [e1, e2, e3, e4]
  omega
theorem chA_ch (x : Int64) (k : Nat) : vp_nar .char (((chA x k).toUInt32 % 65536).toInt32) = chA x k := by
  have h : 0 ≤ (chA x k).toInt ∧ (chA x k).toInt < 256 := by
    unfold chA
    rw [and255i]
    exact and255 _
  rw [lg_i2c_nf, lg_i2c_small h.1 (by omega), vp_nar_char, lg_i2c_small h.1 (by omega)]
section C13
variable {G : Gx} {d : Nat} {w : Wd} {y : Yy} {hs sl : Nat → Yy} {sv P pd : Nat → Int32} {sz sp : Int32} {t : Nat} {Q : Option Value → Wd → Prop}
theorem C_wipe (hW : CW w y hs sl sv P pd sz sp) (hQ : ∀ w' P', P' 0 = 0 → CW w' y hs sl sv P' pd sz sp → FC w w' → Q (some (.int (P 0))) w') : T G (d + 1) 0 79 [.ref 0] 137 w Q := by
  refine T_of false hm_79 (by decide +kernel) rfl (Nat.le_of_ble_eq_true rfl) (by decide) (fun q => by cases q) ?_
  intro J hJ
  obtain ⟨⟨a1, a2, a3, a4, a5, a6⟩, -⟩ := id hW
  refine go_ok hJ (fun _ => false) 60 ?_
  simp -implicitDefEqProofs only [E_79, s_aload_n, (s_getf rF_6_34), ft_6_4, fn_6_4, (s_getf rF_6_165), ft_3_1, fn_3_1, s_istore_n, s_iconst, (s_putf rF_6_165), s_iload_n, s_ireturn, i1_0, up_n, ret_b, bI_0, pk_us, pk_un, up_e, up_up, Decidable.not_not, nI_1, Int32.add_zero, Int32.zero_add, vz_0, tn_0, vz_1, tn_1, vz_2, tn_2, vz_3, tn_3, vz_4, tn_4, vz_5, tn_5, vz_6, tn_6, vz_7, tn_7, vz_8, tn_8, vz_9, tn_9, vz_10, tn_10, vz_11, tn_11, vz_12, tn_12, vz_13, tn_13, vz_14, tn_14, vz_15, tn_15, vz_160, tn_160, vz_161, tn_161, vz_162, tn_162, vz_163, tn_163, vz_164, tn_164, vs_0, vs_1, vs_2, vs_3, vs_4, vs_5, run_s, run_e, run_0, true_and, and_true, and_self, or_true, true_or, or_false, false_or, List.length_cons, List.length_nil, Option.toList_some, Option.toList_none, List.cons_append, List.nil_append, isI_t, isJ_t, isA_t, vI_t, nI32_t, isF_t, gF_t, sF_t, isO_t, isP_t, isP0_t, gE_t, sE_t, isR_t, gO_t, sO_t, isS_t, vS_t, isSc_t, nSc_t, pok_i, pok_o, pok_a, pok_0, pok_1, ret_i, ret_0, ret_1, ret_v, clr_i, clr_j, clr_r, clr_n, cat_i, cat_r, kk0, kk1, kk2, eq_self, Nat.reduceEqDiff, Nat.reduceLeDiff, Nat.reduceAdd, Nat.reduceLT, Nat.reduceSub, Nat.reduceMul, forall_const, imp_false, not_true_eq_false, not_false_eq_true, false_imp_iff, Nat.zero_ne_one, Nat.one_ne_zero, Bool.false_eq_true, reduceCtorEq, ne_eq, Nat.add_zero, Nat.reduceBEq, Bool.or_false, Bool.or_true, Bool.false_or, Bool.true_or, or_self, entL, List.flatMap_cons, List.flatMap_nil, List.reduceReplicate, ↓reduceIte, cat_j, lg_0, lg_1, lg_2, lg_3, lg_4, lg_5, lg_6, lg_7, lg_8, lg_9, lg_10, lg_11, lg_12, lg_13, lg_14, lg_15, lg_16, ls_0, ls_1, ls_2, ls_3, ls_4, ls_5, ls_6, ls_7, ls_8, ls_9, ls_10, ls_11, ls_12, ls_13, ls_14, ls_15, ls_16, st_0, st_1, st_2, st_3, st_4, st_5, st_6, st_7, st_8, st_9, st_10, st_11, st_12, st_13, st_14, st_15, a1, a5]
  exact hQ _ (fl [0, P 1, P 2, P 3, P 4, P 5, P 6]) rfl (hW.pa up_e ((up_n (by decide)).trans a6) (FB.up (by decide) (by decide))) (FB.up (by decide) (by decide))
theorem nxR_2 {x : Nat × Bool} {a b c : Int32} : (nxR pd t x a b c).2 = (nxR pd t x 0 0 0).2 := by
  unfold nxR
  split
  · rfl
  · split
    · rfl
    · split
      · rfl
      · split
        · rfl
        · rfl
def ffL (pd : Nat → Int32) (t : Nat) : Nat → Nat → Int32
  | 0, s => nI s
  | k + 1, s => if (nxR pd t (s, false) 0 0 0).2.2 = false then (if (nxR pd t (s, false) 0 0 0).2.1 < t then ffL pd t k (nxR pd t (s, false) 0 0 0).2.1 else -6) else nI (nxR pd t (s, false) 0 0 0).2.1
theorem C_firstFault {v0 v1 v2 v3 v4 v5 v6 : Int32} (h0 : v0 = nI t) (h1 : w 109 = paO v0 v1 v2 v3 v4 v5 v6) (h2 : w 110 = ar 2 80 pd) (ht : t ≤ 80) (hQ : ∀ w' x l a b c, PW w' pd t x l a b c → FP w w' → Q (some (.int (ffL pd t 81 0))) w') : T G (d + 6) 0 27 [.ref 109] 137 w Q := by
  refine T_of false hm_27 (by decide +kernel) rfl (Nat.le_of_ble_eq_true rfl) (by decide) (fun q => by cases q) ?_
  intro J hJ
  rw [h0] at h1
  have loop : ∀ k i s w1 l a b c, i + k = 81 → s ≤ t → ffL pd t k s = ffL pd t 81 0 → PW w1 pd t (s, false) l a b c → FP w w1 → J 6 [.ref 109, .int (nI i)] [] 137 w1 := by
    intro k
    induction k with
    | zero =>
      intro i s w1 l a b c hi hs he hW1 hF1
      obtain rfl : i = 81 := hi
      rw [← he] at hQ
      refine go_ok hJ (fun p => p == 6) 60 ?_
      simp -implicitDefEqProofs only [E_27, s_aload_n, s_invokevirtual, rM_3_32, iv4_1, hc_26, s_iconst, s_istore_n, s_iload_n, s_bipush, s_icmp_gt, rM_3_35, hc_28, s_if_eq, (s_getf rF_3_25), ft_3_2, fn_3_2, (s_getf rF_3_21), ft_3_1, fn_3_1, s_icmp_lt, s_ireturn, s_iinc, s_goto, i1_0, up_n, ret_b, bI_0, pk_us, pk_un, up_e, up_up, Decidable.not_not, nI_1, Int32.add_zero, Int32.zero_add, vz_0, tn_0, vz_1, tn_1, vz_2, tn_2, vz_3, tn_3, vz_4, tn_4, vz_5, tn_5, vz_6, tn_6, vz_7, tn_7, vz_8, tn_8, vz_9, tn_9, vz_10, tn_10, vz_11, tn_11, vz_12, tn_12, vz_13, tn_13, vz_14, tn_14, vz_15, tn_15, vz_160, tn_160, vz_161, tn_161, vz_162, tn_162, vz_163, tn_163, vz_164, tn_164, vs_0, vs_1, vs_2, vs_3, vs_4, vs_5, run_s, run_e, run_0, true_and, and_true, and_self, or_true, true_or, or_false, false_or, List.length_cons, List.length_nil, Option.toList_some, Option.toList_none, List.cons_append, List.nil_append, isI_t, isJ_t, isA_t, vI_t, nI32_t, isF_t, gF_t, sF_t, isO_t, isP_t, isP0_t, gE_t, sE_t, isR_t, gO_t, sO_t, isS_t, vS_t, isSc_t, nSc_t, pok_i, pok_o, pok_a, pok_0, pok_1, ret_i, ret_0, ret_1, ret_v, clr_i, clr_j, clr_r, clr_n, cat_i, cat_r, kk0, kk1, kk2, eq_self, Nat.reduceEqDiff, Nat.reduceLeDiff, Nat.reduceAdd, Nat.reduceLT, Nat.reduceSub, Nat.reduceMul, forall_const, imp_false, not_true_eq_false, not_false_eq_true, false_imp_iff, Nat.zero_ne_one, Nat.one_ne_zero, Bool.false_eq_true, reduceCtorEq, ne_eq, Nat.add_zero, Nat.reduceBEq, Bool.or_false, Bool.or_true, Bool.false_or, Bool.true_or, or_self, entL, List.flatMap_cons, List.flatMap_nil, List.reduceReplicate, ↓reduceIte, cat_j, lg_0, lg_1, lg_2, lg_3, lg_4, lg_5, lg_6, lg_7, lg_8, lg_9, lg_10, lg_11, lg_12, lg_13, lg_14, lg_15, lg_16, ls_0, ls_1, ls_2, ls_3, ls_4, ls_5, ls_6, ls_7, ls_8, ls_9, ls_10, ls_11, ls_12, ls_13, ls_14, ls_15, ls_16, st_0, st_1, st_2, st_3, st_4, st_5, st_6, st_7, st_8, st_9, st_10, st_11, st_12, st_13, st_14, st_15, hW1.1]
      exact ⟨fun _ => hQ _ _ _ _ _ _ hW1 hF1, fun z => absurd (by decide) z⟩
    | succ k ih =>
      intro i s w1 l a b c hi hs he hW1 hF1
      rw [show ffL pd t (k + 1) s = if (nxR pd t (s, false) 0 0 0).2.2 = false then (if (nxR pd t (s, false) 0 0 0).2.1 < t then ffL pd t k (nxR pd t (s, false) 0 0 0).2.1 else -6) else nI (nxR pd t (s, false) 0 0 0).2.1 from rfl] at he
      have hle := nxR_le (pd := pd) (a := 0) (b := 0) (c := 0) (x := (s, false)) hs
      refine go_ok hJ (fun p => p == 6) 60 ?_
      simp -implicitDefEqProofs only [E_27, s_aload_n, s_invokevirtual, rM_3_32, iv4_1, hc_26, s_iconst, s_istore_n, s_iload_n, s_bipush, s_icmp_gt, rM_3_35, hc_28, s_if_eq, (s_getf rF_3_25), ft_3_2, fn_3_2, (s_getf rF_3_21), ft_3_1, fn_3_1, s_icmp_lt, s_ireturn, s_iinc, s_goto, i1_0, up_n, ret_b, bI_0, pk_us, pk_un, up_e, up_up, Decidable.not_not, nI_1, Int32.add_zero, Int32.zero_add, vz_0, tn_0, vz_1, tn_1, vz_2, tn_2, vz_3, tn_3, vz_4, tn_4, vz_5, tn_5, vz_6, tn_6, vz_7, tn_7, vz_8, tn_8, vz_9, tn_9, vz_10, tn_10, vz_11, tn_11, vz_12, tn_12, vz_13, tn_13, vz_14, tn_14, vz_15, tn_15, vz_160, tn_160, vz_161, tn_161, vz_162, tn_162, vz_163, tn_163, vz_164, tn_164, vs_0, vs_1, vs_2, vs_3, vs_4, vs_5, run_s, run_e, run_0, true_and, and_true, and_self, or_true, true_or, or_false, false_or, List.length_cons, List.length_nil, Option.toList_some, Option.toList_none, List.cons_append, List.nil_append, isI_t, isJ_t, isA_t, vI_t, nI32_t, isF_t, gF_t, sF_t, isO_t, isP_t, isP0_t, gE_t, sE_t, isR_t, gO_t, sO_t, isS_t, vS_t, isSc_t, nSc_t, pok_i, pok_o, pok_a, pok_0, pok_1, ret_i, ret_0, ret_1, ret_v, clr_i, clr_j, clr_r, clr_n, cat_i, cat_r, kk0, kk1, kk2, eq_self, Nat.reduceEqDiff, Nat.reduceLeDiff, Nat.reduceAdd, Nat.reduceLT, Nat.reduceSub, Nat.reduceMul, forall_const, imp_false, not_true_eq_false, not_false_eq_true, false_imp_iff, Nat.zero_ne_one, Nat.one_ne_zero, Bool.false_eq_true, reduceCtorEq, ne_eq, Nat.add_zero, Nat.reduceBEq, Bool.or_false, Bool.or_true, Bool.false_or, Bool.true_or, or_self, entL, List.flatMap_cons, List.flatMap_nil, List.reduceReplicate, ↓reduceIte, cat_j, lg_0, lg_1, lg_2, lg_3, lg_4, lg_5, lg_6, lg_7, lg_8, lg_9, lg_10, lg_11, lg_12, lg_13, lg_14, lg_15, lg_16, ls_0, ls_1, ls_2, ls_3, ls_4, ls_5, ls_6, ls_7, ls_8, ls_9, ls_10, ls_11, ls_12, ls_13, ls_14, ls_15, ls_16, st_0, st_1, st_2, st_3, st_4, st_5, st_6, st_7, st_8, st_9, st_10, st_11, st_12, st_13, st_14, st_15, hW1.1]
      refine ⟨fun z => absurd z (nI_nlt (a := 80) (b := i) (by omega) (by omega)), fun _ => ?_⟩
      refine call0 (C_nextOrder hW1 ht hs fun w2 hW2 hF2 => ?_)
      rw [nxR_2] at hW2 ⊢
      generalize (nxR pd t (s, false) 0 0 0).2 = r at hle he hW2 ⊢
      refine go_ok hJ (fun p => p == 6) 60 ?_
      simp -implicitDefEqProofs only [E_27, s_aload_n, s_invokevirtual, rM_3_32, iv4_1, hc_26, s_iconst, s_istore_n, s_iload_n, s_bipush, s_icmp_gt, rM_3_35, hc_28, s_if_eq, (s_getf rF_3_25), ft_3_2, fn_3_2, (s_getf rF_3_21), ft_3_1, fn_3_1, s_icmp_lt, s_ireturn, s_iinc, s_goto, i1_0, up_n, ret_b, bI_0, pk_us, pk_un, up_e, up_up, Decidable.not_not, nI_1, Int32.add_zero, Int32.zero_add, vz_0, tn_0, vz_1, tn_1, vz_2, tn_2, vz_3, tn_3, vz_4, tn_4, vz_5, tn_5, vz_6, tn_6, vz_7, tn_7, vz_8, tn_8, vz_9, tn_9, vz_10, tn_10, vz_11, tn_11, vz_12, tn_12, vz_13, tn_13, vz_14, tn_14, vz_15, tn_15, vz_160, tn_160, vz_161, tn_161, vz_162, tn_162, vz_163, tn_163, vz_164, tn_164, vs_0, vs_1, vs_2, vs_3, vs_4, vs_5, run_s, run_e, run_0, true_and, and_true, and_self, or_true, true_or, or_false, false_or, List.length_cons, List.length_nil, Option.toList_some, Option.toList_none, List.cons_append, List.nil_append, isI_t, isJ_t, isA_t, vI_t, nI32_t, isF_t, gF_t, sF_t, isO_t, isP_t, isP0_t, gE_t, sE_t, isR_t, gO_t, sO_t, isS_t, vS_t, isSc_t, nSc_t, pok_i, pok_o, pok_a, pok_0, pok_1, ret_i, ret_0, ret_1, ret_v, clr_i, clr_j, clr_r, clr_n, cat_i, cat_r, kk0, kk1, kk2, eq_self, Nat.reduceEqDiff, Nat.reduceLeDiff, Nat.reduceAdd, Nat.reduceLT, Nat.reduceSub, Nat.reduceMul, forall_const, imp_false, not_true_eq_false, not_false_eq_true, false_imp_iff, Nat.zero_ne_one, Nat.one_ne_zero, Bool.false_eq_true, reduceCtorEq, ne_eq, Nat.add_zero, Nat.reduceBEq, Bool.or_false, Bool.or_true, Bool.false_or, Bool.true_or, or_self, entL, List.flatMap_cons, List.flatMap_nil, List.reduceReplicate, ↓reduceIte, cat_j, lg_0, lg_1, lg_2, lg_3, lg_4, lg_5, lg_6, lg_7, lg_8, lg_9, lg_10, lg_11, lg_12, lg_13, lg_14, lg_15, lg_16, ls_0, ls_1, ls_2, ls_3, ls_4, ls_5, ls_6, ls_7, ls_8, ls_9, ls_10, ls_11, ls_12, ls_13, ls_14, ls_15, ls_16, st_0, st_1, st_2, st_3, st_4, st_5, st_6, st_7, st_8, st_9, st_10, st_11, st_12, st_13, st_14, st_15, hW2.1]
      refine ⟨fun z => ?_, fun z => ?_⟩
      · rw [if_neg z] at he
        rw [← he] at hQ
        exact hQ _ _ _ _ _ _ hW2 (hF1.tr hF2)
      · rw [if_pos z] at he
        refine ⟨fun z2 => ?_, fun z2 => ?_⟩
        · have hlt : r.1 < t := (nI_ltI (by omega) (by omega)).mp z2
          rw [if_pos hlt] at he
          exact ih (i + 1) r.1 w2 _ _ _ _ (by omega) hle he (by rw [← z]; exact hW2) (hF1.tr hF2)
        · have hlt : ¬ r.1 < t := fun q => z2 (nI_lt q (by omega))
          rw [if_neg hlt] at he
          rw [← he] at hQ
          exact hQ _ _ _ _ _ _ hW2 (hF1.tr hF2)
  refine go_ok hJ (fun p => p == 6) 60 ?_
  simp -implicitDefEqProofs only [E_27, s_aload_n, s_invokevirtual, rM_3_32, iv4_1, hc_26, s_iconst, s_istore_n, s_iload_n, s_bipush, s_icmp_gt, rM_3_35, hc_28, s_if_eq, (s_getf rF_3_25), ft_3_2, fn_3_2, (s_getf rF_3_21), ft_3_1, fn_3_1, s_icmp_lt, s_ireturn, s_iinc, s_goto, i1_0, up_n, ret_b, bI_0, pk_us, pk_un, up_e, up_up, Decidable.not_not, nI_1, Int32.add_zero, Int32.zero_add, vz_0, tn_0, vz_1, tn_1, vz_2, tn_2, vz_3, tn_3, vz_4, tn_4, vz_5, tn_5, vz_6, tn_6, vz_7, tn_7, vz_8, tn_8, vz_9, tn_9, vz_10, tn_10, vz_11, tn_11, vz_12, tn_12, vz_13, tn_13, vz_14, tn_14, vz_15, tn_15, vz_160, tn_160, vz_161, tn_161, vz_162, tn_162, vz_163, tn_163, vz_164, tn_164, vs_0, vs_1, vs_2, vs_3, vs_4, vs_5, run_s, run_e, run_0, true_and, and_true, and_self, or_true, true_or, or_false, false_or, List.length_cons, List.length_nil, Option.toList_some, Option.toList_none, List.cons_append, List.nil_append, isI_t, isJ_t, isA_t, vI_t, nI32_t, isF_t, gF_t, sF_t, isO_t, isP_t, isP0_t, gE_t, sE_t, isR_t, gO_t, sO_t, isS_t, vS_t, isSc_t, nSc_t, pok_i, pok_o, pok_a, pok_0, pok_1, ret_i, ret_0, ret_1, ret_v, clr_i, clr_j, clr_r, clr_n, cat_i, cat_r, kk0, kk1, kk2, eq_self, Nat.reduceEqDiff, Nat.reduceLeDiff, Nat.reduceAdd, Nat.reduceLT, Nat.reduceSub, Nat.reduceMul, forall_const, imp_false, not_true_eq_false, not_false_eq_true, false_imp_iff, Nat.zero_ne_one, Nat.one_ne_zero, Bool.false_eq_true, reduceCtorEq, ne_eq, Nat.add_zero, Nat.reduceBEq, Bool.or_false, Bool.or_true, Bool.false_or, Bool.true_or, or_self, entL, List.flatMap_cons, List.flatMap_nil, List.reduceReplicate, ↓reduceIte, cat_j, lg_0, lg_1, lg_2, lg_3, lg_4, lg_5, lg_6, lg_7, lg_8, lg_9, lg_10, lg_11, lg_12, lg_13, lg_14, lg_15, lg_16, ls_0, ls_1, ls_2, ls_3, ls_4, ls_5, ls_6, ls_7, ls_8, ls_9, ls_10, ls_11, ls_12, ls_13, ls_14, ls_15, ls_16, st_0, st_1, st_2, st_3, st_4, st_5, st_6, st_7, st_8, st_9, st_10, st_11, st_12, st_13, st_14, st_15, h1]
  refine call0 (C_begin h1 h2 fun w1 hW1 hF1 => ?_)
  refine go_ok hJ (fun p => p == 6) 60 ?_
  simp -implicitDefEqProofs only [E_27, s_aload_n, s_invokevirtual, rM_3_32, iv4_1, hc_26, s_iconst, s_istore_n, s_iload_n, s_bipush, s_icmp_gt, rM_3_35, hc_28, s_if_eq, (s_getf rF_3_25), ft_3_2, fn_3_2, (s_getf rF_3_21), ft_3_1, fn_3_1, s_icmp_lt, s_ireturn, s_iinc, s_goto, i1_0, up_n, ret_b, bI_0, pk_us, pk_un, up_e, up_up, Decidable.not_not, nI_1, Int32.add_zero, Int32.zero_add, vz_0, tn_0, vz_1, tn_1, vz_2, tn_2, vz_3, tn_3, vz_4, tn_4, vz_5, tn_5, vz_6, tn_6, vz_7, tn_7, vz_8, tn_8, vz_9, tn_9, vz_10, tn_10, vz_11, tn_11, vz_12, tn_12, vz_13, tn_13, vz_14, tn_14, vz_15, tn_15, vz_160, tn_160, vz_161, tn_161, vz_162, tn_162, vz_163, tn_163, vz_164, tn_164, vs_0, vs_1, vs_2, vs_3, vs_4, vs_5, run_s, run_e, run_0, true_and, and_true, and_self, or_true, true_or, or_false, false_or, List.length_cons, List.length_nil, Option.toList_some, Option.toList_none, List.cons_append, List.nil_append, isI_t, isJ_t, isA_t, vI_t, nI32_t, isF_t, gF_t, sF_t, isO_t, isP_t, isP0_t, gE_t, sE_t, isR_t, gO_t, sO_t, isS_t, vS_t, isSc_t, nSc_t, pok_i, pok_o, pok_a, pok_0, pok_1, ret_i, ret_0, ret_1, ret_v, clr_i, clr_j, clr_r, clr_n, cat_i, cat_r, kk0, kk1, kk2, eq_self, Nat.reduceEqDiff, Nat.reduceLeDiff, Nat.reduceAdd, Nat.reduceLT, Nat.reduceSub, Nat.reduceMul, forall_const, imp_false, not_true_eq_false, not_false_eq_true, false_imp_iff, Nat.zero_ne_one, Nat.one_ne_zero, Bool.false_eq_true, reduceCtorEq, ne_eq, Nat.add_zero, Nat.reduceBEq, Bool.or_false, Bool.or_true, Bool.false_or, Bool.true_or, or_self, entL, List.flatMap_cons, List.flatMap_nil, List.reduceReplicate, ↓reduceIte, cat_j, lg_0, lg_1, lg_2, lg_3, lg_4, lg_5, lg_6, lg_7, lg_8, lg_9, lg_10, lg_11, lg_12, lg_13, lg_14, lg_15, lg_16, ls_0, ls_1, ls_2, ls_3, ls_4, ls_5, ls_6, ls_7, ls_8, ls_9, ls_10, ls_11, ls_12, ls_13, ls_14, ls_15, ls_16, st_0, st_1, st_2, st_3, st_4, st_5, st_6, st_7, st_8, st_9, st_10, st_11, st_12, st_13, st_14, st_15]
  exact loop 81 0 0 w1 _ _ _ _ (by omega) (by omega) rfl hW1 hF1
theorem C_fault (hW : CW w y hs sl sv P pd sz sp) (hP : P 0 = nI t) (ht : t ≤ 80) (hQ : ∀ w' P', P' 0 = nI t → CW w' y hs sl sv P' pd sz sp → FC w w' → Q (some (.int (ffL pd t 81 0))) w') : T G (d + 7) 0 80 [.ref 0] 137 w Q := by
  refine T_of false hm_80 (by decide +kernel) rfl (Nat.le_of_ble_eq_true rfl) (by decide) (fun q => by cases q) ?_
  intro J hJ
  obtain ⟨⟨a1, a2, a3, a4, a5, a6⟩, -⟩ := id hW
  refine go_ok hJ (fun _ => false) 60 ?_
  simp -implicitDefEqProofs only [E_80, s_aload_n, (s_getf rF_6_34), ft_6_4, fn_6_4, s_invokevirtual, rM_6_198, iv5_1, hc_27, s_ireturn, i1_0, up_n, ret_b, bI_0, pk_us, pk_un, up_e, up_up, Decidable.not_not, nI_1, Int32.add_zero, Int32.zero_add, vz_0, tn_0, vz_1, tn_1, vz_2, tn_2, vz_3, tn_3, vz_4, tn_4, vz_5, tn_5, vz_6, tn_6, vz_7, tn_7, vz_8, tn_8, vz_9, tn_9, vz_10, tn_10, vz_11, tn_11, vz_12, tn_12, vz_13, tn_13, vz_14, tn_14, vz_15, tn_15, vz_160, tn_160, vz_161, tn_161, vz_162, tn_162, vz_163, tn_163, vz_164, tn_164, vs_0, vs_1, vs_2, vs_3, vs_4, vs_5, run_s, run_e, run_0, true_and, and_true, and_self, or_true, true_or, or_false, false_or, List.length_cons, List.length_nil, Option.toList_some, Option.toList_none, List.cons_append, List.nil_append, isI_t, isJ_t, isA_t, vI_t, nI32_t, isF_t, gF_t, sF_t, isO_t, isP_t, isP0_t, gE_t, sE_t, isR_t, gO_t, sO_t, isS_t, vS_t, isSc_t, nSc_t, pok_i, pok_o, pok_a, pok_0, pok_1, ret_i, ret_0, ret_1, ret_v, clr_i, clr_j, clr_r, clr_n, cat_i, cat_r, kk0, kk1, kk2, eq_self, Nat.reduceEqDiff, Nat.reduceLeDiff, Nat.reduceAdd, Nat.reduceLT, Nat.reduceSub, Nat.reduceMul, forall_const, imp_false, not_true_eq_false, not_false_eq_true, false_imp_iff, Nat.zero_ne_one, Nat.one_ne_zero, Bool.false_eq_true, reduceCtorEq, ne_eq, Nat.add_zero, Nat.reduceBEq, Bool.or_false, Bool.or_true, Bool.false_or, Bool.true_or, or_self, entL, List.flatMap_cons, List.flatMap_nil, List.reduceReplicate, ↓reduceIte, cat_j, lg_0, lg_1, lg_2, lg_3, lg_4, lg_5, lg_6, lg_7, lg_8, lg_9, lg_10, lg_11, lg_12, lg_13, lg_14, lg_15, lg_16, ls_0, ls_1, ls_2, ls_3, ls_4, ls_5, ls_6, ls_7, ls_8, ls_9, ls_10, ls_11, ls_12, ls_13, ls_14, ls_15, ls_16, st_0, st_1, st_2, st_3, st_4, st_5, st_6, st_7, st_8, st_9, st_10, st_11, st_12, st_13, st_14, st_15, a1, a5]
  refine call0 (C_firstFault hP a5 a6 ht fun w1 x l a b c hW1 hF1 => ?_)
  refine go_ok hJ (fun _ => false) 60 ?_
  simp -implicitDefEqProofs only [E_80, s_aload_n, (s_getf rF_6_34), ft_6_4, fn_6_4, s_invokevirtual, rM_6_198, iv5_1, hc_27, s_ireturn, i1_0, up_n, ret_b, bI_0, pk_us, pk_un, up_e, up_up, Decidable.not_not, nI_1, Int32.add_zero, Int32.zero_add, vz_0, tn_0, vz_1, tn_1, vz_2, tn_2, vz_3, tn_3, vz_4, tn_4, vz_5, tn_5, vz_6, tn_6, vz_7, tn_7, vz_8, tn_8, vz_9, tn_9, vz_10, tn_10, vz_11, tn_11, vz_12, tn_12, vz_13, tn_13, vz_14, tn_14, vz_15, tn_15, vz_160, tn_160, vz_161, tn_161, vz_162, tn_162, vz_163, tn_163, vz_164, tn_164, vs_0, vs_1, vs_2, vs_3, vs_4, vs_5, run_s, run_e, run_0, true_and, and_true, and_self, or_true, true_or, or_false, false_or, List.length_cons, List.length_nil, Option.toList_some, Option.toList_none, List.cons_append, List.nil_append, isI_t, isJ_t, isA_t, vI_t, nI32_t, isF_t, gF_t, sF_t, isO_t, isP_t, isP0_t, gE_t, sE_t, isR_t, gO_t, sO_t, isS_t, vS_t, isSc_t, nSc_t, pok_i, pok_o, pok_a, pok_0, pok_1, ret_i, ret_0, ret_1, ret_v, clr_i, clr_j, clr_r, clr_n, cat_i, cat_r, kk0, kk1, kk2, eq_self, Nat.reduceEqDiff, Nat.reduceLeDiff, Nat.reduceAdd, Nat.reduceLT, Nat.reduceSub, Nat.reduceMul, forall_const, imp_false, not_true_eq_false, not_false_eq_true, false_imp_iff, Nat.zero_ne_one, Nat.one_ne_zero, Bool.false_eq_true, reduceCtorEq, ne_eq, Nat.add_zero, Nat.reduceBEq, Bool.or_false, Bool.or_true, Bool.false_or, Bool.true_or, or_self, entL, List.flatMap_cons, List.flatMap_nil, List.reduceReplicate, ↓reduceIte, cat_j, lg_0, lg_1, lg_2, lg_3, lg_4, lg_5, lg_6, lg_7, lg_8, lg_9, lg_10, lg_11, lg_12, lg_13, lg_14, lg_15, lg_16, ls_0, ls_1, ls_2, ls_3, ls_4, ls_5, ls_6, ls_7, ls_8, ls_9, ls_10, ls_11, ls_12, ls_13, ls_14, ls_15, ls_16, st_0, st_1, st_2, st_3, st_4, st_5, st_6, st_7, st_8, st_9, st_10, st_11, st_12, st_13, st_14, st_15]
  exact hQ _ (fl [nI t, nI x.1, fb x.2, l, a, b, c]) rfl (hW.pa hW1.1 hW1.2 hF1) (hF1.wk (by omega) (by omega))
end C13
