/-! the reference: the pad read, carried out, filled -/
def rd1 (pd : Nat → Int32) (t s : Nat) (told : Nat → Int32) (n : Nat) : Bool × Nat × (Nat → Int32) × Nat :=
  if oL pd t s = 99 ∨ oL pd t s = 112 ∨ oL pd t s = 110 ∨ oL pd t s = 97 then (decide ((oF pd t s).1 ≠ -6 ∧ (oS pd t s).1 ≠ -6 ∧ (oT pd t s).1 ≠ -6), (oT pd t s).2, oTd pd told t s n, n + 1) else (false, s, told, n)
def rpL (pd : Nat → Int32) (t : Nat) : Nat → Bool × Nat × (Nat → Int32) × Nat → Bool × Nat × (Nat → Int32) × Nat
  | 0, x => x
  | k + 1, x => if x.1 = true ∧ x.2.1 < t then (if x.2.1 < t ∧ 59 ≤ pd x.2.1 ∧ pd x.2.1 ≤ 59 then rpL pd t k (rd1 pd t (x.2.1 + 1) x.2.2.1 x.2.2.2) else (false, x.2)) else x
theorem rpL_s {pd : Nat → Int32} {t k : Nat} {x : Bool × Nat × (Nat → Int32) × Nat} : rpL pd t (k + 1) x = if x.1 = true ∧ x.2.1 < t then (if x.2.1 < t ∧ 59 ≤ pd x.2.1 ∧ pd x.2.1 ≤ 59 then rpL pd t k (rd1 pd t (x.2.1 + 1) x.2.2.1 x.2.2.2) else (false, x.2)) else x := rfl
def rp (pd : Nat → Int32) (t : Nat) (told : Nat → Int32) : Bool × Nat × (Nat → Int32) × Nat := rpL pd t (t + 1) (rd1 pd t 0 told 0)
theorem oF_le {pd : Nat → Int32} {t s : Nat} (h : s < t) : s + 1 ≤ (oF pd t s).2 ∧ (oF pd t s).2 ≤ t := by
  unfold oF
  split
  · exact nKd_le h
  · exact nNum_le h
theorem oS_le {pd : Nat → Int32} {t s : Nat} (h : s < t) : s + 1 ≤ (oS pd t s).2 ∧ (oS pd t s).2 ≤ t := by
  have hF := oF_le (pd := pd) h
  unfold oS
  split
  · next h2 => have := nNum_le (pd := pd) (t := t) (s := (oF pd t s).2 + 1) (dg := 1) (by omega); omega
  · split
    · have := nNum_le (pd := pd) (t := t) (s := (oF pd t s).2) (dg := 2) (by omega); omega
    · exact hF
theorem oT_le {pd : Nat → Int32} {t s : Nat} (h : s < t) : s + 1 ≤ (oT pd t s).2 ∧ (oT pd t s).2 ≤ t := by
  have hF := oS_le (pd := pd) h
  unfold oT
  split
  · split
    · next h2 => have := nNum_le (pd := pd) (t := t) (s := (oS pd t s).2 + 1) (dg := 2) (by omega); omega
    · exact hF
  · exact hF
theorem rd1_le {pd told : Nat → Int32} {t s n : Nat} (h : s ≤ t) (hn : 2 * n ≤ s) : s ≤ (rd1 pd t s told n).2.1 ∧ (rd1 pd t s told n).2.1 ≤ t ∧ 2 * (rd1 pd t s told n).2.2.2 ≤ (rd1 pd t s told n).2.1 + 1 := by
  unfold rd1
  split
  · next hg =>
    have := oT_le (pd := pd) (oL_lt hg)
    dsimp only
    omega
  · dsimp only; omega
section M12
variable {G : Gx} {d : Nat} {w : Wd} {z spare past slots sv pd told : Nat → Int32} {st ty sp tm : Int32} {Q : Option Value → Wd → Prop} {m t s n : Nat}
theorem M_readOrd (hM : MW w z spare past slots sv pd told st (nI t) (nI s) (nI n)) (ht : t ≤ 80) (hs : s ≤ t) (hn : 2 * n ≤ s)
    (hQ : ∀ w', MW w' z spare past slots sv pd (rd1 pd t s told n).2.2.1 st (nI t) (nI (rd1 pd t s told n).2.1) (nI (rd1 pd t s told n).2.2.2) → FR w w' → Q (some (.int (bI ((rd1 pd t s told n).1 = true)))) w') : T G (d + 4) 0 155 [.ref 137] 145 w Q := by
  refine M_readOrder hM ht hs hn (fun hg => ?_) (fun w' hg hM1 hF1 => ?_)
  · have e : rd1 pd t s told n = (false, s, told, n) := if_neg hg
    rw [e] at hQ
    exact hQ w hM FR.rf
  · have e : rd1 pd t s told n = (decide ((oF pd t s).1 ≠ -6 ∧ (oS pd t s).1 ≠ -6 ∧ (oT pd t s).1 ≠ -6), (oT pd t s).2, oTd pd told t s n, n + 1) := if_pos hg
    rw [e] at hQ
    have := hQ w' hM1 hF1
    have e2 : bI (decide ((oF pd t s).1 ≠ -6 ∧ (oS pd t s).1 ≠ -6 ∧ (oT pd t s).1 ≠ -6) = true) = bI ((oF pd t s).1 ≠ -6 ∧ (oS pd t s).1 ≠ -6 ∧ (oT pd t s).1 ≠ -6) := by
      by_cases h : (oF pd t s).1 ≠ -6 ∧ (oS pd t s).1 ≠ -6 ∧ (oT pd t s).1 ≠ -6
      · rw [bI_t h, bI_t (decide_eq_true h)]
      · rw [bI_f h, bI_f (fun q => h (of_decide_eq_true q))]
    dsimp only at this
    rwa [e2] at this
theorem M_readPad (hM : MW w z spare past slots sv pd told st (nI t) sp tm) (ht : t ≤ 80)
    (hQ : ∀ w', MW w' z spare past slots sv pd (rp pd t told).2.2.1 st (nI t) (nI (rp pd t told).2.1) (nI (rp pd t told).2.2.2) → FR w w' → (rp pd t told).2.1 ≤ t → 2 * (rp pd t told).2.2.2 ≤ (rp pd t told).2.1 + 1 → Q (some (.int (bI ((rp pd t told).1 = true)))) w') : T G (d + 5) 0 156 [.ref 137] 145 w Q := by
  refine T_of false hm_156 (by decide +kernel) rfl (Nat.le_of_ble_eq_true rfl) (by decide) (fun q => by cases q) ?_
  intro J hJ
  obtain ⟨h0, h1, h2, h3, h4, h5, h6, h7⟩ := id hM
  have fin : ∀ (x : Bool × Nat × (Nat → Int32) × Nat) (w2 : Wd), rp pd t told = x → x.2.1 ≤ t → 2 * x.2.2.2 ≤ x.2.1 + 1 → MW w2 z spare past slots sv pd x.2.2.1 st (nI t) (nI x.2.1) (nI x.2.2.2) → FR w w2 → J 55 [.ref 137, .int (bI (x.1 = true))] [] 145 w2 := by
    intro x w2 e a1 a2 hM2 hF2
    rw [e] at hQ
    refine go_ok hJ (fun _ => false) 60 ?_
    simp -implicitDefEqProofs only [E_156, s_aload_n, s_iconst, (s_putf rF_7_161), ft_7_8, fn_7_8, (s_putf rF_7_176), ft_7_10, fn_7_10, s_invokevirtual, rM_7_179, iv4_1, hc_155, s_istore_n, s_iload_n, s_if_eq, (s_getf rF_7_161), (s_getf rF_7_150), ft_7_7, fn_7_7, s_icmp_ge, s_bipush, rM_7_173, iv4_2, hc_152, s_goto, s_ireturn, i1_0, up_n, ret_b, bI_0, pk_us, pk_un, up_e, up_up, Decidable.not_not, nI_1, Int32.add_zero, Int32.zero_add, vz_0, tn_0, vz_1, tn_1, vz_2, tn_2, vz_3, tn_3, vz_4, tn_4, vz_5, tn_5, vz_6, tn_6, vz_7, tn_7, vz_8, tn_8, vz_9, tn_9, vz_10, tn_10, vz_11, tn_11, vz_12, tn_12, vz_13, tn_13, vz_14, tn_14, vz_15, tn_15, vz_160, tn_160, vz_161, tn_161, vz_162, tn_162, vz_163, tn_163, vz_164, tn_164, run_s, run_e, run_0, true_and, and_true, and_self, or_true, true_or, or_false, false_or, List.length_cons, List.length_nil, Option.toList_some, Option.toList_none, List.cons_append, List.nil_append, isI_t, isJ_t, isA_t, vI_t, nI32_t, isF_t, gF_t, sF_t, isO_t, isP_t, isP0_t, gE_t, sE_t, isR_t, gO_t, sO_t, isS_t, vS_t, isSc_t, nSc_t, pok_i, pok_o, pok_a, pok_0, pok_1, ret_i, ret_0, ret_1, ret_v, clr_i, clr_j, clr_r, clr_n, cat_i, cat_r, kk0, kk1, kk2, eq_self, Nat.reduceEqDiff, Nat.reduceLeDiff, Nat.reduceAdd, Nat.reduceLT, Nat.reduceSub, Nat.reduceMul, forall_const, imp_false, not_true_eq_false, not_false_eq_true, false_imp_iff, Nat.zero_ne_one, Nat.one_ne_zero, Bool.false_eq_true, reduceCtorEq, ne_eq, Nat.add_zero, Nat.reduceBEq, Bool.or_false, Bool.or_true, Bool.false_or, Bool.true_or, or_self, entL, List.flatMap_cons, List.flatMap_nil, List.reduceReplicate, ↓reduceIte, cat_j, lg_0, lg_1, lg_2, lg_3, lg_4, lg_5, lg_6, lg_7, lg_8, lg_9, lg_10, ls_0, ls_1, ls_2, ls_3, ls_4, ls_5, ls_6, ls_7, ls_8, ls_9, ls_10, st_0, st_1, st_2, st_3, st_4, st_5, st_6, hM2.1]
    exact hQ _ hM2 hF2 a1 a2
  have loop : ∀ k (x : Bool × Nat × (Nat → Int32) × Nat) (w2 : Wd), t < x.2.1 + k → rp pd t told = rpL pd t k x → x.2.1 ≤ t → 2 * x.2.2.2 ≤ x.2.1 + 1 → MW w2 z spare past slots sv pd x.2.2.1 st (nI t) (nI x.2.1) (nI x.2.2.2) → FR w w2 → J 15 [.ref 137, .int (bI (x.1 = true))] [] 145 w2 := by
    intro k
    induction k with
    | zero => intro x w2 hk _ hx; omega
    | succ k ih =>
      intro x w2 hk e a1 a2 hM2 hF2
      rw [rpL_s (k := k) (x := x)] at e
      obtain ⟨g0, -⟩ := id hM2
      have out : ¬ (x.1 = true ∧ x.2.1 < t) → J 55 [.ref 137, .int (bI (x.1 = true))] [] 145 w2 := by
        intro h
        rw [if_neg h] at e
        exact fin x w2 e a1 a2 hM2 hF2
      by_cases hx1 : x.1 = true
      · rw [bI_t hx1] at out ⊢
        refine go_ok hJ (fun p => p == 55) 60 ?_
        simp -implicitDefEqProofs only [E_156, s_aload_n, s_iconst, (s_putf rF_7_161), ft_7_8, fn_7_8, (s_putf rF_7_176), ft_7_10, fn_7_10, s_invokevirtual, rM_7_179, iv4_1, hc_155, s_istore_n, s_iload_n, s_if_eq, (s_getf rF_7_161), (s_getf rF_7_150), ft_7_7, fn_7_7, s_icmp_ge, s_bipush, rM_7_173, iv4_2, hc_152, s_goto, s_ireturn, i1_0, up_n, ret_b, bI_0, pk_us, pk_un, up_e, up_up, Decidable.not_not, nI_1, Int32.add_zero, Int32.zero_add, vz_0, tn_0, vz_1, tn_1, vz_2, tn_2, vz_3, tn_3, vz_4, tn_4, vz_5, tn_5, vz_6, tn_6, vz_7, tn_7, vz_8, tn_8, vz_9, tn_9, vz_10, tn_10, vz_11, tn_11, vz_12, tn_12, vz_13, tn_13, vz_14, tn_14, vz_15, tn_15, vz_160, tn_160, vz_161, tn_161, vz_162, tn_162, vz_163, tn_163, vz_164, tn_164, run_s, run_e, run_0, true_and, and_true, and_self, or_true, true_or, or_false, false_or, List.length_cons, List.length_nil, Option.toList_some, Option.toList_none, List.cons_append, List.nil_append, isI_t, isJ_t, isA_t, vI_t, nI32_t, isF_t, gF_t, sF_t, isO_t, isP_t, isP0_t, gE_t, sE_t, isR_t, gO_t, sO_t, isS_t, vS_t, isSc_t, nSc_t, pok_i, pok_o, pok_a, pok_0, pok_1, ret_i, ret_0, ret_1, ret_v, clr_i, clr_j, clr_r, clr_n, cat_i, cat_r, kk0, kk1, kk2, eq_self, Nat.reduceEqDiff, Nat.reduceLeDiff, Nat.reduceAdd, Nat.reduceLT, Nat.reduceSub, Nat.reduceMul, forall_const, imp_false, not_true_eq_false, not_false_eq_true, false_imp_iff, Nat.zero_ne_one, Nat.one_ne_zero, Bool.false_eq_true, reduceCtorEq, ne_eq, Nat.add_zero, Nat.reduceBEq, Bool.or_false, Bool.or_true, Bool.false_or, Bool.true_or, or_self, entL, List.flatMap_cons, List.flatMap_nil, List.reduceReplicate, ↓reduceIte, cat_j, lg_0, lg_1, lg_2, lg_3, lg_4, lg_5, lg_6, lg_7, lg_8, lg_9, lg_10, ls_0, ls_1, ls_2, ls_3, ls_4, ls_5, ls_6, ls_7, ls_8, ls_9, ls_10, st_0, st_1, st_2, st_3, st_4, st_5, st_6, g0]
        refine ⟨fun h => out (fun q => absurd h (nI_ge q.2 (by omega))), fun h => ?_⟩
        have hlt : x.2.1 < t := by
          rcases Nat.lt_or_ge x.2.1 t with q | q
          · exact q
          · exact absurd (nI_le q (by omega)) h
        rw [if_pos ⟨hx1, hlt⟩] at e
        refine call0 (M_takes hM2 ht a1 fun w3 hM3 hF3 => ?_)
        obtain ⟨k0, -⟩ := id hM3
        by_cases hc : x.2.1 < t ∧ 59 ≤ pd x.2.1 ∧ pd x.2.1 ≤ 59
        · rw [bI_t hc]
          rw [if_pos hc] at e
          rw [show tkS pd t x.2.1 59 = x.2.1 + 1 from if_pos hc] at hM3
          refine go_ok hJ (fun p => p == 15 || p == 55) 60 ?_
          simp -implicitDefEqProofs only [E_156, s_aload_n, s_iconst, (s_putf rF_7_161), ft_7_8, fn_7_8, (s_putf rF_7_176), ft_7_10, fn_7_10, s_invokevirtual, rM_7_179, iv4_1, hc_155, s_istore_n, s_iload_n, s_if_eq, (s_getf rF_7_161), (s_getf rF_7_150), ft_7_7, fn_7_7, s_icmp_ge, s_bipush, rM_7_173, iv4_2, hc_152, s_goto, s_ireturn, i1_0, up_n, ret_b, bI_0, pk_us, pk_un, up_e, up_up, Decidable.not_not, nI_1, Int32.add_zero, Int32.zero_add, vz_0, tn_0, vz_1, tn_1, vz_2, tn_2, vz_3, tn_3, vz_4, tn_4, vz_5, tn_5, vz_6, tn_6, vz_7, tn_7, vz_8, tn_8, vz_9, tn_9, vz_10, tn_10, vz_11, tn_11, vz_12, tn_12, vz_13, tn_13, vz_14, tn_14, vz_15, tn_15, vz_160, tn_160, vz_161, tn_161, vz_162, tn_162, vz_163, tn_163, vz_164, tn_164, run_s, run_e, run_0, true_and, and_true, and_self, or_true, true_or, or_false, false_or, List.length_cons, List.length_nil, Option.toList_some, Option.toList_none, List.cons_append, List.nil_append, isI_t, isJ_t, isA_t, vI_t, nI32_t, isF_t, gF_t, sF_t, isO_t, isP_t, isP0_t, gE_t, sE_t, isR_t, gO_t, sO_t, isS_t, vS_t, isSc_t, nSc_t, pok_i, pok_o, pok_a, pok_0, pok_1, ret_i, ret_0, ret_1, ret_v, clr_i, clr_j, clr_r, clr_n, cat_i, cat_r, kk0, kk1, kk2, eq_self, Nat.reduceEqDiff, Nat.reduceLeDiff, Nat.reduceAdd, Nat.reduceLT, Nat.reduceSub, Nat.reduceMul, forall_const, imp_false, not_true_eq_false, not_false_eq_true, false_imp_iff, Nat.zero_ne_one, Nat.one_ne_zero, Bool.false_eq_true, reduceCtorEq, ne_eq, Nat.add_zero, Nat.reduceBEq, Bool.or_false, Bool.or_true, Bool.false_or, Bool.true_or, or_self, entL, List.flatMap_cons, List.flatMap_nil, List.reduceReplicate, ↓reduceIte, cat_j, lg_0, lg_1, lg_2, lg_3, lg_4, lg_5, lg_6, lg_7, lg_8, lg_9, lg_10, ls_0, ls_1, ls_2, ls_3, ls_4, ls_5, ls_6, ls_7, ls_8, ls_9, ls_10, st_0, st_1, st_2, st_3, st_4, st_5, st_6, k0]
          refine call0 (M_readOrd hM3 ht (by omega) (by omega) fun w4 hM4 hF4 => ?_)
          have hr := rd1_le (pd := pd) (told := x.2.2.1) (t := t) (s := x.2.1 + 1) (n := x.2.2.2) (by omega) (by omega)
          have e1 := ih _ w4 (by omega) e hr.2.1 hr.2.2 hM4 ((hF2.tr hF3).tr hF4)
          generalize rd1 pd t (x.2.1 + 1) x.2.2.1 x.2.2.2 = y at e1 hM4 ⊢
          by_cases hy : y.1 = true
          · rw [bI_t hy] at e1 ⊢
            refine go_ok hJ (fun p => p == 15 || p == 55) 60 ?_
            simp -implicitDefEqProofs only [E_156, s_aload_n, s_iconst, (s_putf rF_7_161), ft_7_8, fn_7_8, (s_putf rF_7_176), ft_7_10, fn_7_10, s_invokevirtual, rM_7_179, iv4_1, hc_155, s_istore_n, s_iload_n, s_if_eq, (s_getf rF_7_161), (s_getf rF_7_150), ft_7_7, fn_7_7, s_icmp_ge, s_bipush, rM_7_173, iv4_2, hc_152, s_goto, s_ireturn, i1_0, up_n, ret_b, bI_0, pk_us, pk_un, up_e, up_up, Decidable.not_not, nI_1, Int32.add_zero, Int32.zero_add, vz_0, tn_0, vz_1, tn_1, vz_2, tn_2, vz_3, tn_3, vz_4, tn_4, vz_5, tn_5, vz_6, tn_6, vz_7, tn_7, vz_8, tn_8, vz_9, tn_9, vz_10, tn_10, vz_11, tn_11, vz_12, tn_12, vz_13, tn_13, vz_14, tn_14, vz_15, tn_15, vz_160, tn_160, vz_161, tn_161, vz_162, tn_162, vz_163, tn_163, vz_164, tn_164, run_s, run_e, run_0, true_and, and_true, and_self, or_true, true_or, or_false, false_or, List.length_cons, List.length_nil, Option.toList_some, Option.toList_none, List.cons_append, List.nil_append, isI_t, isJ_t, isA_t, vI_t, nI32_t, isF_t, gF_t, sF_t, isO_t, isP_t, isP0_t, gE_t, sE_t, isR_t, gO_t, sO_t, isS_t, vS_t, isSc_t, nSc_t, pok_i, pok_o, pok_a, pok_0, pok_1, ret_i, ret_0, ret_1, ret_v, clr_i, clr_j, clr_r, clr_n, cat_i, cat_r, kk0, kk1, kk2, eq_self, Nat.reduceEqDiff, Nat.reduceLeDiff, Nat.reduceAdd, Nat.reduceLT, Nat.reduceSub, Nat.reduceMul, forall_const, imp_false, not_true_eq_false, not_false_eq_true, false_imp_iff, Nat.zero_ne_one, Nat.one_ne_zero, Bool.false_eq_true, reduceCtorEq, ne_eq, Nat.add_zero, Nat.reduceBEq, Bool.or_false, Bool.or_true, Bool.false_or, Bool.true_or, or_self, entL, List.flatMap_cons, List.flatMap_nil, List.reduceReplicate, ↓reduceIte, cat_j, lg_0, lg_1, lg_2, lg_3, lg_4, lg_5, lg_6, lg_7, lg_8, lg_9, lg_10, ls_0, ls_1, ls_2, ls_3, ls_4, ls_5, ls_6, ls_7, ls_8, ls_9, ls_10, st_0, st_1, st_2, st_3, st_4, st_5, st_6, hM4.1]
            exact e1
          · rw [bI_f hy] at e1 ⊢
            refine go_ok hJ (fun p => p == 15 || p == 55) 60 ?_
            simp -implicitDefEqProofs only [E_156, s_aload_n, s_iconst, (s_putf rF_7_161), ft_7_8, fn_7_8, (s_putf rF_7_176), ft_7_10, fn_7_10, s_invokevirtual, rM_7_179, iv4_1, hc_155, s_istore_n, s_iload_n, s_if_eq, (s_getf rF_7_161), (s_getf rF_7_150), ft_7_7, fn_7_7, s_icmp_ge, s_bipush, rM_7_173, iv4_2, hc_152, s_goto, s_ireturn, i1_0, up_n, ret_b, bI_0, pk_us, pk_un, up_e, up_up, Decidable.not_not, nI_1, Int32.add_zero, Int32.zero_add, vz_0, tn_0, vz_1, tn_1, vz_2, tn_2, vz_3, tn_3, vz_4, tn_4, vz_5, tn_5, vz_6, tn_6, vz_7, tn_7, vz_8, tn_8, vz_9, tn_9, vz_10, tn_10, vz_11, tn_11, vz_12, tn_12, vz_13, tn_13, vz_14, tn_14, vz_15, tn_15, vz_160, tn_160, vz_161, tn_161, vz_162, tn_162, vz_163, tn_163, vz_164, tn_164, run_s, run_e, run_0, true_and, and_true, and_self, or_true, true_or, or_false, false_or, List.length_cons, List.length_nil, Option.toList_some, Option.toList_none, List.cons_append, List.nil_append, isI_t, isJ_t, isA_t, vI_t, nI32_t, isF_t, gF_t, sF_t, isO_t, isP_t, isP0_t, gE_t, sE_t, isR_t, gO_t, sO_t, isS_t, vS_t, isSc_t, nSc_t, pok_i, pok_o, pok_a, pok_0, pok_1, ret_i, ret_0, ret_1, ret_v, clr_i, clr_j, clr_r, clr_n, cat_i, cat_r, kk0, kk1, kk2, eq_self, Nat.reduceEqDiff, Nat.reduceLeDiff, Nat.reduceAdd, Nat.reduceLT, Nat.reduceSub, Nat.reduceMul, forall_const, imp_false, not_true_eq_false, not_false_eq_true, false_imp_iff, Nat.zero_ne_one, Nat.one_ne_zero, Bool.false_eq_true, reduceCtorEq, ne_eq, Nat.add_zero, Nat.reduceBEq, Bool.or_false, Bool.or_true, Bool.false_or, Bool.true_or, or_self, entL, List.flatMap_cons, List.flatMap_nil, List.reduceReplicate, ↓reduceIte, cat_j, lg_0, lg_1, lg_2, lg_3, lg_4, lg_5, lg_6, lg_7, lg_8, lg_9, lg_10, ls_0, ls_1, ls_2, ls_3, ls_4, ls_5, ls_6, ls_7, ls_8, ls_9, ls_10, st_0, st_1, st_2, st_3, st_4, st_5, st_6, hM4.1]
            exact e1
        · rw [bI_f hc]
          rw [if_neg hc] at e
          rw [show tkS pd t x.2.1 59 = x.2.1 from if_neg hc] at hM3
          have e1 := fin (false, x.2) w3 e a1 a2 hM3 (hF2.tr hF3)
          have e0 : bI ((false, x.2).1 = true) = 0 := bI_f (by simp)
          rw [e0] at e1
          refine go_ok hJ (fun p => p == 55) 60 ?_
          simp -implicitDefEqProofs only [E_156, s_aload_n, s_iconst, (s_putf rF_7_161), ft_7_8, fn_7_8, (s_putf rF_7_176), ft_7_10, fn_7_10, s_invokevirtual, rM_7_179, iv4_1, hc_155, s_istore_n, s_iload_n, s_if_eq, (s_getf rF_7_161), (s_getf rF_7_150), ft_7_7, fn_7_7, s_icmp_ge, s_bipush, rM_7_173, iv4_2, hc_152, s_goto, s_ireturn, i1_0, up_n, ret_b, bI_0, pk_us, pk_un, up_e, up_up, Decidable.not_not, nI_1, Int32.add_zero, Int32.zero_add, vz_0, tn_0, vz_1, tn_1, vz_2, tn_2, vz_3, tn_3, vz_4, tn_4, vz_5, tn_5, vz_6, tn_6, vz_7, tn_7, vz_8, tn_8, vz_9, tn_9, vz_10, tn_10, vz_11, tn_11, vz_12, tn_12, vz_13, tn_13, vz_14, tn_14, vz_15, tn_15, vz_160, tn_160, vz_161, tn_161, vz_162, tn_162, vz_163, tn_163, vz_164, tn_164, run_s, run_e, run_0, true_and, and_true, and_self, or_true, true_or, or_false, false_or, List.length_cons, List.length_nil, Option.toList_some, Option.toList_none, List.cons_append, List.nil_append, isI_t, isJ_t, isA_t, vI_t, nI32_t, isF_t, gF_t, sF_t, isO_t, isP_t, isP0_t, gE_t, sE_t, isR_t, gO_t, sO_t, isS_t, vS_t, isSc_t, nSc_t, pok_i, pok_o, pok_a, pok_0, pok_1, ret_i, ret_0, ret_1, ret_v, clr_i, clr_j, clr_r, clr_n, cat_i, cat_r, kk0, kk1, kk2, eq_self, Nat.reduceEqDiff, Nat.reduceLeDiff, Nat.reduceAdd, Nat.reduceLT, Nat.reduceSub, Nat.reduceMul, forall_const, imp_false, not_true_eq_false, not_false_eq_true, false_imp_iff, Nat.zero_ne_one, Nat.one_ne_zero, Bool.false_eq_true, reduceCtorEq, ne_eq, Nat.add_zero, Nat.reduceBEq, Bool.or_false, Bool.or_true, Bool.false_or, Bool.true_or, or_self, entL, List.flatMap_cons, List.flatMap_nil, List.reduceReplicate, ↓reduceIte, cat_j, lg_0, lg_1, lg_2, lg_3, lg_4, lg_5, lg_6, lg_7, lg_8, lg_9, lg_10, ls_0, ls_1, ls_2, ls_3, ls_4, ls_5, ls_6, ls_7, ls_8, ls_9, ls_10, st_0, st_1, st_2, st_3, st_4, st_5, st_6, k0]
          exact e1
      · rw [bI_f hx1] at out ⊢
        refine go_ok hJ (fun p => p == 55) 60 ?_
        simp -implicitDefEqProofs only [E_156, s_aload_n, s_iconst, (s_putf rF_7_161), ft_7_8, fn_7_8, (s_putf rF_7_176), ft_7_10, fn_7_10, s_invokevirtual, rM_7_179, iv4_1, hc_155, s_istore_n, s_iload_n, s_if_eq, (s_getf rF_7_161), (s_getf rF_7_150), ft_7_7, fn_7_7, s_icmp_ge, s_bipush, rM_7_173, iv4_2, hc_152, s_goto, s_ireturn, i1_0, up_n, ret_b, bI_0, pk_us, pk_un, up_e, up_up, Decidable.not_not, nI_1, Int32.add_zero, Int32.zero_add, vz_0, tn_0, vz_1, tn_1, vz_2, tn_2, vz_3, tn_3, vz_4, tn_4, vz_5, tn_5, vz_6, tn_6, vz_7, tn_7, vz_8, tn_8, vz_9, tn_9, vz_10, tn_10, vz_11, tn_11, vz_12, tn_12, vz_13, tn_13, vz_14, tn_14, vz_15, tn_15, vz_160, tn_160, vz_161, tn_161, vz_162, tn_162, vz_163, tn_163, vz_164, tn_164, run_s, run_e, run_0, true_and, and_true, and_self, or_true, true_or, or_false, false_or, List.length_cons, List.length_nil, Option.toList_some, Option.toList_none, List.cons_append, List.nil_append, isI_t, isJ_t, isA_t, vI_t, nI32_t, isF_t, gF_t, sF_t, isO_t, isP_t, isP0_t, gE_t, sE_t, isR_t, gO_t, sO_t, isS_t, vS_t, isSc_t, nSc_t, pok_i, pok_o, pok_a, pok_0, pok_1, ret_i, ret_0, ret_1, ret_v, clr_i, clr_j, clr_r, clr_n, cat_i, cat_r, kk0, kk1, kk2, eq_self, Nat.reduceEqDiff, Nat.reduceLeDiff, Nat.reduceAdd, Nat.reduceLT, Nat.reduceSub, Nat.reduceMul, forall_const, imp_false, not_true_eq_false, not_false_eq_true, false_imp_iff, Nat.zero_ne_one, Nat.one_ne_zero, Bool.false_eq_true, reduceCtorEq, ne_eq, Nat.add_zero, Nat.reduceBEq, Bool.or_false, Bool.or_true, Bool.false_or, Bool.true_or, or_self, entL, List.flatMap_cons, List.flatMap_nil, List.reduceReplicate, ↓reduceIte, cat_j, lg_0, lg_1, lg_2, lg_3, lg_4, lg_5, lg_6, lg_7, lg_8, lg_9, lg_10, ls_0, ls_1, ls_2, ls_3, ls_4, ls_5, ls_6, ls_7, ls_8, ls_9, ls_10, st_0, st_1, st_2, st_3, st_4, st_5, st_6, g0]
        exact out (fun q => hx1 q.1)
  have hM1 := hM.uo st (nI t) 0 0
  have hF1 : FR w (va_up w 137 (mO st (nI t) 0 0)) := FR.up (by decide) (by decide)
  refine go_ok hJ (fun _ => false) 60 ?_
  simp -implicitDefEqProofs only [E_156, s_aload_n, s_iconst, (s_putf rF_7_161), ft_7_8, fn_7_8, (s_putf rF_7_176), ft_7_10, fn_7_10, s_invokevirtual, rM_7_179, iv4_1, hc_155, s_istore_n, s_iload_n, s_if_eq, (s_getf rF_7_161), (s_getf rF_7_150), ft_7_7, fn_7_7, s_icmp_ge, s_bipush, rM_7_173, iv4_2, hc_152, s_goto, s_ireturn, i1_0, up_n, ret_b, bI_0, pk_us, pk_un, up_e, up_up, Decidable.not_not, nI_1, Int32.add_zero, Int32.zero_add, vz_0, tn_0, vz_1, tn_1, vz_2, tn_2, vz_3, tn_3, vz_4, tn_4, vz_5, tn_5, vz_6, tn_6, vz_7, tn_7, vz_8, tn_8, vz_9, tn_9, vz_10, tn_10, vz_11, tn_11, vz_12, tn_12, vz_13, tn_13, vz_14, tn_14, vz_15, tn_15, vz_160, tn_160, vz_161, tn_161, vz_162, tn_162, vz_163, tn_163, vz_164, tn_164, run_s, run_e, run_0, true_and, and_true, and_self, or_true, true_or, or_false, false_or, List.length_cons, List.length_nil, Option.toList_some, Option.toList_none, List.cons_append, List.nil_append, isI_t, isJ_t, isA_t, vI_t, nI32_t, isF_t, gF_t, sF_t, isO_t, isP_t, isP0_t, gE_t, sE_t, isR_t, gO_t, sO_t, isS_t, vS_t, isSc_t, nSc_t, pok_i, pok_o, pok_a, pok_0, pok_1, ret_i, ret_0, ret_1, ret_v, clr_i, clr_j, clr_r, clr_n, cat_i, cat_r, kk0, kk1, kk2, eq_self, Nat.reduceEqDiff, Nat.reduceLeDiff, Nat.reduceAdd, Nat.reduceLT, Nat.reduceSub, Nat.reduceMul, forall_const, imp_false, not_true_eq_false, not_false_eq_true, false_imp_iff, Nat.zero_ne_one, Nat.one_ne_zero, Bool.false_eq_true, reduceCtorEq, ne_eq, Nat.add_zero, Nat.reduceBEq, Bool.or_false, Bool.or_true, Bool.false_or, Bool.true_or, or_self, entL, List.flatMap_cons, List.flatMap_nil, List.reduceReplicate, ↓reduceIte, cat_j, lg_0, lg_1, lg_2, lg_3, lg_4, lg_5, lg_6, lg_7, lg_8, lg_9, lg_10, ls_0, ls_1, ls_2, ls_3, ls_4, ls_5, ls_6, ls_7, ls_8, ls_9, ls_10, st_0, st_1, st_2, st_3, st_4, st_5, st_6, h0]
  generalize va_up w 137 (mO st (nI t) 0 0) = w1 at hM1 hF1 ⊢
  refine call0 (M_readOrd (s := 0) (n := 0) hM1 ht (by omega) (by omega) fun w2 hM2 hF2 => ?_)
  have hr := rd1_le (pd := pd) (told := told) (t := t) (s := 0) (n := 0) (by omega) (by omega)
  have e1 := loop (t + 1) _ w2 (by omega) rfl hr.2.1 hr.2.2 hM2 (hF1.tr hF2)
  refine go_ok hJ (fun p => p == 15) 60 ?_
  simp -implicitDefEqProofs only [E_156, s_aload_n, s_iconst, (s_putf rF_7_161), ft_7_8, fn_7_8, (s_putf rF_7_176), ft_7_10, fn_7_10, s_invokevirtual, rM_7_179, iv4_1, hc_155, s_istore_n, s_iload_n, s_if_eq, (s_getf rF_7_161), (s_getf rF_7_150), ft_7_7, fn_7_7, s_icmp_ge, s_bipush, rM_7_173, iv4_2, hc_152, s_goto, s_ireturn, i1_0, up_n, ret_b, bI_0, pk_us, pk_un, up_e, up_up, Decidable.not_not, nI_1, Int32.add_zero, Int32.zero_add, vz_0, tn_0, vz_1, tn_1, vz_2, tn_2, vz_3, tn_3, vz_4, tn_4, vz_5, tn_5, vz_6, tn_6, vz_7, tn_7, vz_8, tn_8, vz_9, tn_9, vz_10, tn_10, vz_11, tn_11, vz_12, tn_12, vz_13, tn_13, vz_14, tn_14, vz_15, tn_15, vz_160, tn_160, vz_161, tn_161, vz_162, tn_162, vz_163, tn_163, vz_164, tn_164, run_s, run_e, run_0, true_and, and_true, and_self, or_true, true_or, or_false, false_or, List.length_cons, List.length_nil, Option.toList_some, Option.toList_none, List.cons_append, List.nil_append, isI_t, isJ_t, isA_t, vI_t, nI32_t, isF_t, gF_t, sF_t, isO_t, isP_t, isP0_t, gE_t, sE_t, isR_t, gO_t, sO_t, isS_t, vS_t, isSc_t, nSc_t, pok_i, pok_o, pok_a, pok_0, pok_1, ret_i, ret_0, ret_1, ret_v, clr_i, clr_j, clr_r, clr_n, cat_i, cat_r, kk0, kk1, kk2, eq_self, Nat.reduceEqDiff, Nat.reduceLeDiff, Nat.reduceAdd, Nat.reduceLT, Nat.reduceSub, Nat.reduceMul, forall_const, imp_false, not_true_eq_false, not_false_eq_true, false_imp_iff, Nat.zero_ne_one, Nat.one_ne_zero, Bool.false_eq_true, reduceCtorEq, ne_eq, Nat.add_zero, Nat.reduceBEq, Bool.or_false, Bool.or_true, Bool.false_or, Bool.true_or, or_self, entL, List.flatMap_cons, List.flatMap_nil, List.reduceReplicate, ↓reduceIte, cat_j, lg_0, lg_1, lg_2, lg_3, lg_4, lg_5, lg_6, lg_7, lg_8, lg_9, lg_10, ls_0, ls_1, ls_2, ls_3, ls_4, ls_5, ls_6, ls_7, ls_8, ls_9, ls_10, st_0, st_1, st_2, st_3, st_4, st_5, st_6, hM2.1]
  exact e1
theorem M_fault (hM : MW w z spare past slots sv pd told st (nI t) sp tm) (ht : t ≤ 80)
    (hQ : ∀ w' told' sp' tm', MW w' z spare past slots sv pd told' st (nI t) sp' tm' → FR w w' → Q (some (.int (if (rp pd t told).1 = true then -6 else nI (rp pd t told).2.1))) w') : T G (d + 6) 0 157 [.ref 137] 145 w Q := by
  refine T_of false hm_157 (by decide +kernel) rfl (Nat.le_of_ble_eq_true rfl) (by decide) (fun q => by cases q) ?_
  intro J hJ
  refine go_ok hJ (fun _ => false) 60 ?_
  simp -implicitDefEqProofs only [E_157, s_aload_n, s_invokevirtual, rM_7_183, iv4_1, hc_156, s_if_eq, s_bipush, s_goto, (s_getf rF_7_161), ft_7_8, fn_7_8, s_ireturn, i1_0, up_n, ret_b, bI_0, pk_us, pk_un, up_e, up_up, Decidable.not_not, nI_1, Int32.add_zero, Int32.zero_add, vz_0, tn_0, vz_1, tn_1, vz_2, tn_2, vz_3, tn_3, vz_4, tn_4, vz_5, tn_5, vz_6, tn_6, vz_7, tn_7, vz_8, tn_8, vz_9, tn_9, vz_10, tn_10, vz_11, tn_11, vz_12, tn_12, vz_13, tn_13, vz_14, tn_14, vz_15, tn_15, vz_160, tn_160, vz_161, tn_161, vz_162, tn_162, vz_163, tn_163, vz_164, tn_164, run_s, run_e, run_0, true_and, and_true, and_self, or_true, true_or, or_false, false_or, List.length_cons, List.length_nil, Option.toList_some, Option.toList_none, List.cons_append, List.nil_append, isI_t, isJ_t, isA_t, vI_t, nI32_t, isF_t, gF_t, sF_t, isO_t, isP_t, isP0_t, gE_t, sE_t, isR_t, gO_t, sO_t, isS_t, vS_t, isSc_t, nSc_t, pok_i, pok_o, pok_a, pok_0, pok_1, ret_i, ret_0, ret_1, ret_v, clr_i, clr_j, clr_r, clr_n, cat_i, cat_r, kk0, kk1, kk2, eq_self, Nat.reduceEqDiff, Nat.reduceLeDiff, Nat.reduceAdd, Nat.reduceLT, Nat.reduceSub, Nat.reduceMul, forall_const, imp_false, not_true_eq_false, not_false_eq_true, false_imp_iff, Nat.zero_ne_one, Nat.one_ne_zero, Bool.false_eq_true, reduceCtorEq, ne_eq, Nat.add_zero, Nat.reduceBEq, Bool.or_false, Bool.or_true, Bool.false_or, Bool.true_or, or_self, entL, List.flatMap_cons, List.flatMap_nil, List.reduceReplicate, ↓reduceIte, cat_j, lg_0, lg_1, lg_2, lg_3, lg_4, lg_5, lg_6, lg_7, lg_8, lg_9, lg_10, ls_0, ls_1, ls_2, ls_3, ls_4, ls_5, ls_6, ls_7, ls_8, ls_9, ls_10, st_0, st_1, st_2, st_3, st_4, st_5, st_6, hM.1]
  refine call0 (M_readPad hM ht fun w1 hM1 hF1 _ _ => ?_)
  have hQ := hQ w1 _ _ _ hM1 hF1
  refine go_ok hJ (fun _ => false) 60 ?_
  simp -implicitDefEqProofs only [E_157, s_aload_n, s_invokevirtual, rM_7_183, iv4_1, hc_156, s_if_eq, s_bipush, s_goto, (s_getf rF_7_161), ft_7_8, fn_7_8, s_ireturn, i1_0, up_n, ret_b, bI_0, pk_us, pk_un, up_e, up_up, Decidable.not_not, nI_1, Int32.add_zero, Int32.zero_add, vz_0, tn_0, vz_1, tn_1, vz_2, tn_2, vz_3, tn_3, vz_4, tn_4, vz_5, tn_5, vz_6, tn_6, vz_7, tn_7, vz_8, tn_8, vz_9, tn_9, vz_10, tn_10, vz_11, tn_11, vz_12, tn_12, vz_13, tn_13, vz_14, tn_14, vz_15, tn_15, vz_160, tn_160, vz_161, tn_161, vz_162, tn_162, vz_163, tn_163, vz_164, tn_164, run_s, run_e, run_0, true_and, and_true, and_self, or_true, true_or, or_false, false_or, List.length_cons, List.length_nil, Option.toList_some, Option.toList_none, List.cons_append, List.nil_append, isI_t, isJ_t, isA_t, vI_t, nI32_t, isF_t, gF_t, sF_t, isO_t, isP_t, isP0_t, gE_t, sE_t, isR_t, gO_t, sO_t, isS_t, vS_t, isSc_t, nSc_t, pok_i, pok_o, pok_a, pok_0, pok_1, ret_i, ret_0, ret_1, ret_v, clr_i, clr_j, clr_r, clr_n, cat_i, cat_r, kk0, kk1, kk2, eq_self, Nat.reduceEqDiff, Nat.reduceLeDiff, Nat.reduceAdd, Nat.reduceLT, Nat.reduceSub, Nat.reduceMul, forall_const, imp_false, not_true_eq_false, not_false_eq_true, false_imp_iff, Nat.zero_ne_one, Nat.one_ne_zero, Bool.false_eq_true, reduceCtorEq, ne_eq, Nat.add_zero, Nat.reduceBEq, Bool.or_false, Bool.or_true, Bool.false_or, Bool.true_or, or_self, entL, List.flatMap_cons, List.flatMap_nil, List.reduceReplicate, ↓reduceIte, cat_j, lg_0, lg_1, lg_2, lg_3, lg_4, lg_5, lg_6, lg_7, lg_8, lg_9, lg_10, ls_0, ls_1, ls_2, ls_3, ls_4, ls_5, ls_6, ls_7, ls_8, ls_9, ls_10, st_0, st_1, st_2, st_3, st_4, st_5, st_6, hM1.1]
  refine ⟨fun h => ?_, fun h => ?_⟩
  · rwa [if_neg h] at hQ
  · rwa [if_pos h] at hQ
def byt (x : Int64) : Int32 := (x &&& 255).toInt32
def sh8 (x : Int64) : Int64 := (x.toUInt64 >>> ((8 : Int32).toInt64.toUInt64 &&& Int64.toUInt64 63)).toInt64
def pcN : Nat → Int64 → Nat → Option Nat
  | 0, _, n => some n
  | k + 1, l, n => if l = 0 then some n else if 33 ≤ byt l ∧ byt l ≤ 126 then pcN k (sh8 l) (n + 1) else none
theorem pcN_s {k n : Nat} {l : Int64} : pcN (k + 1) l n = if l = 0 then some n else if 33 ≤ byt l ∧ byt l ≤ 126 then pcN k (sh8 l) (n + 1) else none := rfl
theorem pcN_le : ∀ {k n : Nat} {l : Int64} {r : Nat}, pcN k l n = some r → n ≤ r ∧ r ≤ n + k
  | 0, n, l, r, h => by cases h; omega
  | k + 1, n, l, r, h => by
    rw [pcN_s] at h
    split at h
    · cases h; omega
    · split at h
      · have := pcN_le h; omega
      · cases h
def chA (x : Int64) (k : Nat) : Int32 := ((x.toUInt64 >>> ((nI (8 * k)).toInt64.toUInt64 &&& Int64.toUInt64 63)).toInt64 &&& 255).toInt32
def ptS (pd : Nat → Int32) (t n : Nat) (x : Int64) : Nat → Nat → Int32
  | 0 => pd
  | i + 1 => upd (ptS pd t n x i) (t + i) (chA x (n - 1 - i))
theorem M_put_ (hM : MW w z spare past slots sv pd told st (nI t) sp tm) (ht : t ≤ 80) {x : Int64} (hQ0 : (pcN 8 x 0 = none ∨ pcN 8 x 0 = some 0) → Q (some (.int (-2))) w) (hQ1 : ∀ n, pcN 8 x 0 = some n → n ≠ 0 → 80 < t + n → Q (some (.int (-4))) w)
    (hQ : ∀ n w', pcN 8 x 0 = some n → n ≠ 0 → t + n ≤ 80 → MW w' z spare past slots sv (ptS pd t n x n) told st (nI (t + n)) sp tm → FR w w' → Q (some (.int (nI (t + n)))) w') : T G (d + 2) 0 149 [.ref 137, .long x] 145 w Q := by
  refine T_of false hm_149 (by decide +kernel) rfl (Nat.le_of_ble_eq_true rfl) (by decide) (fun q => by cases q) ?_
  intro J hJ
  obtain ⟨h0, h1, h2, h3, h4, h5, h6, h7⟩ := id hM
  have app : ∀ (n : Nat) (v3 v4 : Value), pcN 8 x 0 = some n → n ≠ 0 → n ≤ 8 → t + n ≤ 80 → ∀ k i, i + k = n → ∀ w2, MW w2 z spare past slots sv (ptS pd t n x i) told st (nI (t + i)) sp tm → FR w w2 → J 77 [.ref 137, .long x, .null, v3, v4, .int (nI n), .int (nI k - 1)] [] 145 w2 := by
    intro n v3 v4 hn hn0 hn8 htn k
    induction k with
    | zero =>
      intro i hi w2 hM2 hF2
      obtain rfl : i = n := hi
      refine go_ok hJ (fun p => p == 77 || p == 82) 60 ?_
      simp -implicitDefEqProofs only [E_149, s_lload_n, s_lstore_n, s_iconst, s_istore, s_lconst, s_lcmp, s_if_eq, s_iload, s_bipush, s_icmp_ge, (s_ldc2 rJ_7_159), s_land, s_l2i, s_invokestatic, rM_7_32, iv0_3, s_if_ne, s_ireturn, s_lushr, s_iinc, s_goto, s_aload_n, (s_getf rF_7_150), ft_7_7, fn_7_7, s_iadd, s_icmp_le, s_isub, s_if_lt, (s_getf rF_7_26), ft_7_6, fn_7_6, s_imul, s_iastore, s_dup, (s_putf rF_7_150), i1_0, up_n, ret_b, bI_0, pk_us, pk_un, up_e, up_up, Decidable.not_not, nI_1, Int32.add_zero, Int32.zero_add, vz_0, tn_0, vz_1, tn_1, vz_2, tn_2, vz_3, tn_3, vz_4, tn_4, vz_5, tn_5, vz_6, tn_6, vz_7, tn_7, vz_8, tn_8, vz_9, tn_9, vz_10, tn_10, vz_11, tn_11, vz_12, tn_12, vz_13, tn_13, vz_14, tn_14, vz_15, tn_15, vz_160, tn_160, vz_161, tn_161, vz_162, tn_162, vz_163, tn_163, vz_164, tn_164, run_s, run_e, run_0, true_and, and_true, and_self, or_true, true_or, or_false, false_or, List.length_cons, List.length_nil, Option.toList_some, Option.toList_none, List.cons_append, List.nil_append, isI_t, isJ_t, isA_t, vI_t, nI32_t, isF_t, gF_t, sF_t, isO_t, isP_t, isP0_t, gE_t, sE_t, isR_t, gO_t, sO_t, isS_t, vS_t, isSc_t, nSc_t, pok_i, pok_o, pok_a, pok_0, pok_1, ret_i, ret_0, ret_1, ret_v, clr_i, clr_j, clr_r, clr_n, cat_i, cat_r, kk0, kk1, kk2, eq_self, Nat.reduceEqDiff, Nat.reduceLeDiff, Nat.reduceAdd, Nat.reduceLT, Nat.reduceSub, Nat.reduceMul, forall_const, imp_false, not_true_eq_false, not_false_eq_true, false_imp_iff, Nat.zero_ne_one, Nat.one_ne_zero, Bool.false_eq_true, reduceCtorEq, ne_eq, Nat.add_zero, Nat.reduceBEq, Bool.or_false, Bool.or_true, Bool.false_or, Bool.true_or, or_self, entL, List.flatMap_cons, List.flatMap_nil, List.reduceReplicate, ↓reduceIte, cat_j, lg_0, lg_1, lg_2, lg_3, lg_4, lg_5, lg_6, lg_7, lg_8, lg_9, lg_10, ls_0, ls_1, ls_2, ls_3, ls_4, ls_5, ls_6, ls_7, ls_8, ls_9, ls_10, st_0, st_1, st_2, st_3, st_4, st_5, st_6, hM2.1]
      exact ⟨fun _ => hQ i w2 hn hn0 htn hM2 hF2, fun h => absurd (by decide) h⟩
    | succ k ih =>
      intro i hi w2 hM2 hF2
      obtain ⟨g0, g1, g2, g3, g4, g5, g6, g7⟩ := id hM2
      have hM3 := (hM2.upd (ptS pd t n x (i + 1))).uo st (nI (t + (i + 1))) sp tm
      have e1 := ih (i + 1) (by omega) _ hM3 (hF2.tr ((FR.up (by decide) (by decide)).tr (FR.up (by decide) (by decide))))
      rw [nI_pred]
      have q1 : ¬ nI k < 0 := nI_pos (by omega)
      have q2 : (8 : Int32) * nI k = nI (8 * k) := pk_mul 8 k
      have q3 : nI k + -1 = nI k - 1 := by rw [Int32.sub_eq_add_neg]
      have hp : ptS pd t n x (i + 1) = upd (ptS pd t n x i) (t + i) (chA x k) := by
        show upd _ _ (chA x (n - 1 - i)) = _
        rw [show n - 1 - i = k by omega]
      rw [hp] at e1
      unfold chA at e1
      refine go_ok hJ (fun p => p == 77) 60 ?_
      simp -implicitDefEqProofs only [E_149, s_lload_n, s_lstore_n, s_iconst, s_istore, s_lconst, s_lcmp, s_if_eq, s_iload, s_bipush, s_icmp_ge, (s_ldc2 rJ_7_159), s_land, s_l2i, s_invokestatic, rM_7_32, iv0_3, s_if_ne, s_ireturn, s_lushr, s_iinc, s_goto, s_aload_n, (s_getf rF_7_150), ft_7_7, fn_7_7, s_iadd, s_icmp_le, s_isub, s_if_lt, (s_getf rF_7_26), ft_7_6, fn_7_6, s_imul, s_iastore, s_dup, (s_putf rF_7_150), i1_0, up_n, ret_b, bI_0, pk_us, pk_un, up_e, up_up, Decidable.not_not, nI_1, Int32.add_zero, Int32.zero_add, vz_0, tn_0, vz_1, tn_1, vz_2, tn_2, vz_3, tn_3, vz_4, tn_4, vz_5, tn_5, vz_6, tn_6, vz_7, tn_7, vz_8, tn_8, vz_9, tn_9, vz_10, tn_10, vz_11, tn_11, vz_12, tn_12, vz_13, tn_13, vz_14, tn_14, vz_15, tn_15, vz_160, tn_160, vz_161, tn_161, vz_162, tn_162, vz_163, tn_163, vz_164, tn_164, run_s, run_e, run_0, true_and, and_true, and_self, or_true, true_or, or_false, false_or, List.length_cons, List.length_nil, Option.toList_some, Option.toList_none, List.cons_append, List.nil_append, isI_t, isJ_t, isA_t, vI_t, nI32_t, isF_t, gF_t, sF_t, isO_t, isP_t, isP0_t, gE_t, sE_t, isR_t, gO_t, sO_t, isS_t, vS_t, isSc_t, nSc_t, pok_i, pok_o, pok_a, pok_0, pok_1, ret_i, ret_0, ret_1, ret_v, clr_i, clr_j, clr_r, clr_n, cat_i, cat_r, kk0, kk1, kk2, eq_self, Nat.reduceEqDiff, Nat.reduceLeDiff, Nat.reduceAdd, Nat.reduceLT, Nat.reduceSub, Nat.reduceMul, forall_const, imp_false, not_true_eq_false, not_false_eq_true, false_imp_iff, Nat.zero_ne_one, Nat.one_ne_zero, Bool.false_eq_true, reduceCtorEq, ne_eq, Nat.add_zero, Nat.reduceBEq, Bool.or_false, Bool.or_true, Bool.false_or, Bool.true_or, or_self, entL, List.flatMap_cons, List.flatMap_nil, List.reduceReplicate, ↓reduceIte, cat_j, lg_0, lg_1, lg_2, lg_3, lg_4, lg_5, lg_6, lg_7, lg_8, lg_9, lg_10, ls_0, ls_1, ls_2, ls_3, ls_4, ls_5, ls_6, ls_7, ls_8, ls_9, ls_10, st_0, st_1, st_2, st_3, st_4, st_5, st_6, g0, g6, q2, q3]
      rw [nI_clamp (n := t + i) (by omega)]
      exact ⟨fun h => absurd h q1, fun _ => ⟨vp_in_nI (by omega) (by omega), e1⟩⟩
  have b48 : ∀ (n : Nat) (l : Int64) (v6 : Value), pcN 8 x 0 = some n → J 48 [.ref 137, .long x, .null, .long l, .null, .int (nI n), v6] [] 145 w := by
    intro n l v6 hn
    have hle := pcN_le hn
    have hle80 := fun (h : nI t + nI n ≤ 80) => h
    refine go_ok hJ (fun p => p == 77) 60 ?_
    simp -implicitDefEqProofs only [E_149, s_lload_n, s_lstore_n, s_iconst, s_istore, s_lconst, s_lcmp, s_if_eq, s_iload, s_bipush, s_icmp_ge, (s_ldc2 rJ_7_159), s_land, s_l2i, s_invokestatic, rM_7_32, iv0_3, s_if_ne, s_ireturn, s_lushr, s_iinc, s_goto, s_aload_n, (s_getf rF_7_150), ft_7_7, fn_7_7, s_iadd, s_icmp_le, s_isub, s_if_lt, (s_getf rF_7_26), ft_7_6, fn_7_6, s_imul, s_iastore, s_dup, (s_putf rF_7_150), i1_0, up_n, ret_b, bI_0, pk_us, pk_un, up_e, up_up, Decidable.not_not, nI_1, Int32.add_zero, Int32.zero_add, vz_0, tn_0, vz_1, tn_1, vz_2, tn_2, vz_3, tn_3, vz_4, tn_4, vz_5, tn_5, vz_6, tn_6, vz_7, tn_7, vz_8, tn_8, vz_9, tn_9, vz_10, tn_10, vz_11, tn_11, vz_12, tn_12, vz_13, tn_13, vz_14, tn_14, vz_15, tn_15, vz_160, tn_160, vz_161, tn_161, vz_162, tn_162, vz_163, tn_163, vz_164, tn_164, run_s, run_e, run_0, true_and, and_true, and_self, or_true, true_or, or_false, false_or, List.length_cons, List.length_nil, Option.toList_some, Option.toList_none, List.cons_append, List.nil_append, isI_t, isJ_t, isA_t, vI_t, nI32_t, isF_t, gF_t, sF_t, isO_t, isP_t, isP0_t, gE_t, sE_t, isR_t, gO_t, sO_t, isS_t, vS_t, isSc_t, nSc_t, pok_i, pok_o, pok_a, pok_0, pok_1, ret_i, ret_0, ret_1, ret_v, clr_i, clr_j, clr_r, clr_n, cat_i, cat_r, kk0, kk1, kk2, eq_self, Nat.reduceEqDiff, Nat.reduceLeDiff, Nat.reduceAdd, Nat.reduceLT, Nat.reduceSub, Nat.reduceMul, forall_const, imp_false, not_true_eq_false, not_false_eq_true, false_imp_iff, Nat.zero_ne_one, Nat.one_ne_zero, Bool.false_eq_true, reduceCtorEq, ne_eq, Nat.add_zero, Nat.reduceBEq, Bool.or_false, Bool.or_true, Bool.false_or, Bool.true_or, or_self, entL, List.flatMap_cons, List.flatMap_nil, List.reduceReplicate, ↓reduceIte, cat_j, lg_0, lg_1, lg_2, lg_3, lg_4, lg_5, lg_6, lg_7, lg_8, lg_9, lg_10, ls_0, ls_1, ls_2, ls_3, ls_4, ls_5, ls_6, ls_7, ls_8, ls_9, ls_10, st_0, st_1, st_2, st_3, st_4, st_5, st_6, h0, nI_add]
    refine ⟨fun h => ⟨fun h2 => ?_, fun h2 => ?_⟩, fun h => ?_⟩
    · have hn0 : n ≠ 0 := fun q => h (by rw [q]; rfl)
      have htn : t + n ≤ 80 := by
        rcases Nat.lt_or_ge 80 (t + n) with q | q
        · exact absurd h2 (nI_ge (a := 80) q (by omega))
        · exact q
      exact app n _ _ hn hn0 (by omega) htn n 0 (by omega) w hM FR.rf
    · have hn0 : n ≠ 0 := fun q => h (by rw [q]; rfl)
      refine hQ1 n hn hn0 ?_
      rcases Nat.lt_or_ge 80 (t + n) with q | q
      · exact q
      · exact absurd (nI_le (b := 80) q (by decide)) h2
    · have hn0 : n = 0 := (nI_eq (b := 0) (by omega) (by omega)).mp h
      exact hQ0 (Or.inr (by rw [hn, hn0]))
  have loop : ∀ k n (l : Int64), n + k = 8 → pcN 8 x 0 = pcN k l n → J 5 [.ref 137, .long x, .null, .long l, .null, .int (nI n), .null] [] 145 w := by
    intro k
    induction k with
    | zero =>
      intro n l hn e
      obtain rfl : n = 8 := hn
      have e1 := b48 8 l .null e
      refine go_ok hJ (fun p => p == 18 || p == 48) 60 ?_
      simp -implicitDefEqProofs only [E_149, s_lload_n, s_lstore_n, s_iconst, s_istore, s_lconst, s_lcmp, s_if_eq, s_iload, s_bipush, s_icmp_ge, (s_ldc2 rJ_7_159), s_land, s_l2i, s_invokestatic, rM_7_32, iv0_3, s_if_ne, s_ireturn, s_lushr, s_iinc, s_goto, s_aload_n, (s_getf rF_7_150), ft_7_7, fn_7_7, s_iadd, s_icmp_le, s_isub, s_if_lt, (s_getf rF_7_26), ft_7_6, fn_7_6, s_imul, s_iastore, s_dup, (s_putf rF_7_150), i1_0, up_n, ret_b, bI_0, pk_us, pk_un, up_e, up_up, Decidable.not_not, nI_1, Int32.add_zero, Int32.zero_add, vz_0, tn_0, vz_1, tn_1, vz_2, tn_2, vz_3, tn_3, vz_4, tn_4, vz_5, tn_5, vz_6, tn_6, vz_7, tn_7, vz_8, tn_8, vz_9, tn_9, vz_10, tn_10, vz_11, tn_11, vz_12, tn_12, vz_13, tn_13, vz_14, tn_14, vz_15, tn_15, vz_160, tn_160, vz_161, tn_161, vz_162, tn_162, vz_163, tn_163, vz_164, tn_164, run_s, run_e, run_0, true_and, and_true, and_self, or_true, true_or, or_false, false_or, List.length_cons, List.length_nil, Option.toList_some, Option.toList_none, List.cons_append, List.nil_append, isI_t, isJ_t, isA_t, vI_t, nI32_t, isF_t, gF_t, sF_t, isO_t, isP_t, isP0_t, gE_t, sE_t, isR_t, gO_t, sO_t, isS_t, vS_t, isSc_t, nSc_t, pok_i, pok_o, pok_a, pok_0, pok_1, ret_i, ret_0, ret_1, ret_v, clr_i, clr_j, clr_r, clr_n, cat_i, cat_r, kk0, kk1, kk2, eq_self, Nat.reduceEqDiff, Nat.reduceLeDiff, Nat.reduceAdd, Nat.reduceLT, Nat.reduceSub, Nat.reduceMul, forall_const, imp_false, not_true_eq_false, not_false_eq_true, false_imp_iff, Nat.zero_ne_one, Nat.one_ne_zero, Bool.false_eq_true, reduceCtorEq, ne_eq, Nat.add_zero, Nat.reduceBEq, Bool.or_false, Bool.or_true, Bool.false_or, Bool.true_or, or_self, entL, List.flatMap_cons, List.flatMap_nil, List.reduceReplicate, ↓reduceIte, cat_j, lg_0, lg_1, lg_2, lg_3, lg_4, lg_5, lg_6, lg_7, lg_8, lg_9, lg_10, ls_0, ls_1, ls_2, ls_3, ls_4, ls_5, ls_6, ls_7, ls_8, ls_9, ls_10, st_0, st_1, st_2, st_3, st_4, st_5, st_6, h0]
      exact ⟨fun _ => e1, fun _ => ⟨fun _ => e1, fun h => absurd (Int32.le_refl _) h⟩⟩
    | succ k ih =>
      intro n l hn e
      rw [pcN_s (k := k) (n := n) (l := l)] at e
      refine go_ok hJ (fun p => p == 48) 60 ?_
      simp -implicitDefEqProofs only [E_149, s_lload_n, s_lstore_n, s_iconst, s_istore, s_lconst, s_lcmp, s_if_eq, s_iload, s_bipush, s_icmp_ge, (s_ldc2 rJ_7_159), s_land, s_l2i, s_invokestatic, rM_7_32, iv0_3, s_if_ne, s_ireturn, s_lushr, s_iinc, s_goto, s_aload_n, (s_getf rF_7_150), ft_7_7, fn_7_7, s_iadd, s_icmp_le, s_isub, s_if_lt, (s_getf rF_7_26), ft_7_6, fn_7_6, s_imul, s_iastore, s_dup, (s_putf rF_7_150), i1_0, up_n, ret_b, bI_0, pk_us, pk_un, up_e, up_up, Decidable.not_not, nI_1, Int32.add_zero, Int32.zero_add, vz_0, tn_0, vz_1, tn_1, vz_2, tn_2, vz_3, tn_3, vz_4, tn_4, vz_5, tn_5, vz_6, tn_6, vz_7, tn_7, vz_8, tn_8, vz_9, tn_9, vz_10, tn_10, vz_11, tn_11, vz_12, tn_12, vz_13, tn_13, vz_14, tn_14, vz_15, tn_15, vz_160, tn_160, vz_161, tn_161, vz_162, tn_162, vz_163, tn_163, vz_164, tn_164, run_s, run_e, run_0, true_and, and_true, and_self, or_true, true_or, or_false, false_or, List.length_cons, List.length_nil, Option.toList_some, Option.toList_none, List.cons_append, List.nil_append, isI_t, isJ_t, isA_t, vI_t, nI32_t, isF_t, gF_t, sF_t, isO_t, isP_t, isP0_t, gE_t, sE_t, isR_t, gO_t, sO_t, isS_t, vS_t, isSc_t, nSc_t, pok_i, pok_o, pok_a, pok_0, pok_1, ret_i, ret_0, ret_1, ret_v, clr_i, clr_j, clr_r, clr_n, cat_i, cat_r, kk0, kk1, kk2, eq_self, Nat.reduceEqDiff, Nat.reduceLeDiff, Nat.reduceAdd, Nat.reduceLT, Nat.reduceSub, Nat.reduceMul, forall_const, imp_false, not_true_eq_false, not_false_eq_true, false_imp_iff, Nat.zero_ne_one, Nat.one_ne_zero, Bool.false_eq_true, reduceCtorEq, ne_eq, Nat.add_zero, Nat.reduceBEq, Bool.or_false, Bool.or_true, Bool.false_or, Bool.true_or, or_self, entL, List.flatMap_cons, List.flatMap_nil, List.reduceReplicate, ↓reduceIte, cat_j, lg_0, lg_1, lg_2, lg_3, lg_4, lg_5, lg_6, lg_7, lg_8, lg_9, lg_10, ls_0, ls_1, ls_2, ls_3, ls_4, ls_5, ls_6, ls_7, ls_8, ls_9, ls_10, st_0, st_1, st_2, st_3, st_4, st_5, st_6, h0]
      refine ⟨fun h => ?_, fun h => ⟨fun h2 => absurd h2 (nI_ge (a := n) (b := 8) (by omega) (by omega)), fun _ => ?_⟩⟩
      · rw [if_pos (show l = 0 from (lg_cmp_eq _ _).mp h)] at e
        exact b48 n l .null e
      · rw [if_neg (show ¬ l = 0 from fun q => h ((lg_cmp_eq _ _).mpr q))] at e
        refine call0 (M_in ?_)
        by_cases hc : 33 ≤ byt l ∧ byt l ≤ 126
        · rw [if_pos hc] at e
          have e1 := ih (n + 1) (sh8 l) (by omega) e
          unfold byt at hc
          unfold sh8 at e1
          rw [bI_t hc]
          refine go_ok hJ (fun p => p == 5 || p == 48) 60 ?_
          simp -implicitDefEqProofs only [E_149, s_lload_n, s_lstore_n, s_iconst, s_istore, s_lconst, s_lcmp, s_if_eq, s_iload, s_bipush, s_icmp_ge, (s_ldc2 rJ_7_159), s_land, s_l2i, s_invokestatic, rM_7_32, iv0_3, s_if_ne, s_ireturn, s_lushr, s_iinc, s_goto, s_aload_n, (s_getf rF_7_150), ft_7_7, fn_7_7, s_iadd, s_icmp_le, s_isub, s_if_lt, (s_getf rF_7_26), ft_7_6, fn_7_6, s_imul, s_iastore, s_dup, (s_putf rF_7_150), i1_0, up_n, ret_b, bI_0, pk_us, pk_un, up_e, up_up, Decidable.not_not, nI_1, Int32.add_zero, Int32.zero_add, vz_0, tn_0, vz_1, tn_1, vz_2, tn_2, vz_3, tn_3, vz_4, tn_4, vz_5, tn_5, vz_6, tn_6, vz_7, tn_7, vz_8, tn_8, vz_9, tn_9, vz_10, tn_10, vz_11, tn_11, vz_12, tn_12, vz_13, tn_13, vz_14, tn_14, vz_15, tn_15, vz_160, tn_160, vz_161, tn_161, vz_162, tn_162, vz_163, tn_163, vz_164, tn_164, run_s, run_e, run_0, true_and, and_true, and_self, or_true, true_or, or_false, false_or, List.length_cons, List.length_nil, Option.toList_some, Option.toList_none, List.cons_append, List.nil_append, isI_t, isJ_t, isA_t, vI_t, nI32_t, isF_t, gF_t, sF_t, isO_t, isP_t, isP0_t, gE_t, sE_t, isR_t, gO_t, sO_t, isS_t, vS_t, isSc_t, nSc_t, pok_i, pok_o, pok_a, pok_0, pok_1, ret_i, ret_0, ret_1, ret_v, clr_i, clr_j, clr_r, clr_n, cat_i, cat_r, kk0, kk1, kk2, eq_self, Nat.reduceEqDiff, Nat.reduceLeDiff, Nat.reduceAdd, Nat.reduceLT, Nat.reduceSub, Nat.reduceMul, forall_const, imp_false, not_true_eq_false, not_false_eq_true, false_imp_iff, Nat.zero_ne_one, Nat.one_ne_zero, Bool.false_eq_true, reduceCtorEq, ne_eq, Nat.add_zero, Nat.reduceBEq, Bool.or_false, Bool.or_true, Bool.false_or, Bool.true_or, or_self, entL, List.flatMap_cons, List.flatMap_nil, List.reduceReplicate, ↓reduceIte, cat_j, lg_0, lg_1, lg_2, lg_3, lg_4, lg_5, lg_6, lg_7, lg_8, lg_9, lg_10, ls_0, ls_1, ls_2, ls_3, ls_4, ls_5, ls_6, ls_7, ls_8, ls_9, ls_10, st_0, st_1, st_2, st_3, st_4, st_5, st_6, h0]
          exact e1
        · rw [if_neg hc] at e
          unfold byt at hc
          rw [bI_f hc]
          refine go_ok hJ (fun p => p == 5 || p == 48) 60 ?_
          simp -implicitDefEqProofs only [E_149, s_lload_n, s_lstore_n, s_iconst, s_istore, s_lconst, s_lcmp, s_if_eq, s_iload, s_bipush, s_icmp_ge, (s_ldc2 rJ_7_159), s_land, s_l2i, s_invokestatic, rM_7_32, iv0_3, s_if_ne, s_ireturn, s_lushr, s_iinc, s_goto, s_aload_n, (s_getf rF_7_150), ft_7_7, fn_7_7, s_iadd, s_icmp_le, s_isub, s_if_lt, (s_getf rF_7_26), ft_7_6, fn_7_6, s_imul, s_iastore, s_dup, (s_putf rF_7_150), i1_0, up_n, ret_b, bI_0, pk_us, pk_un, up_e, up_up, Decidable.not_not, nI_1, Int32.add_zero, Int32.zero_add, vz_0, tn_0, vz_1, tn_1, vz_2, tn_2, vz_3, tn_3, vz_4, tn_4, vz_5, tn_5, vz_6, tn_6, vz_7, tn_7, vz_8, tn_8, vz_9, tn_9, vz_10, tn_10, vz_11, tn_11, vz_12, tn_12, vz_13, tn_13, vz_14, tn_14, vz_15, tn_15, vz_160, tn_160, vz_161, tn_161, vz_162, tn_162, vz_163, tn_163, vz_164, tn_164, run_s, run_e, run_0, true_and, and_true, and_self, or_true, true_or, or_false, false_or, List.length_cons, List.length_nil, Option.toList_some, Option.toList_none, List.cons_append, List.nil_append, isI_t, isJ_t, isA_t, vI_t, nI32_t, isF_t, gF_t, sF_t, isO_t, isP_t, isP0_t, gE_t, sE_t, isR_t, gO_t, sO_t, isS_t, vS_t, isSc_t, nSc_t, pok_i, pok_o, pok_a, pok_0, pok_1, ret_i, ret_0, ret_1, ret_v, clr_i, clr_j, clr_r, clr_n, cat_i, cat_r, kk0, kk1, kk2, eq_self, Nat.reduceEqDiff, Nat.reduceLeDiff, Nat.reduceAdd, Nat.reduceLT, Nat.reduceSub, Nat.reduceMul, forall_const, imp_false, not_true_eq_false, not_false_eq_true, false_imp_iff, Nat.zero_ne_one, Nat.one_ne_zero, Bool.false_eq_true, reduceCtorEq, ne_eq, Nat.add_zero, Nat.reduceBEq, Bool.or_false, Bool.or_true, Bool.false_or, Bool.true_or, or_self, entL, List.flatMap_cons, List.flatMap_nil, List.reduceReplicate, ↓reduceIte, cat_j, lg_0, lg_1, lg_2, lg_3, lg_4, lg_5, lg_6, lg_7, lg_8, lg_9, lg_10, ls_0, ls_1, ls_2, ls_3, ls_4, ls_5, ls_6, ls_7, ls_8, ls_9, ls_10, st_0, st_1, st_2, st_3, st_4, st_5, st_6, h0]
          exact hQ0 (Or.inl e)
  refine go_ok hJ (fun p => p == 5) 60 ?_
  simp -implicitDefEqProofs only [E_149, s_lload_n, s_lstore_n, s_iconst, s_istore, s_lconst, s_lcmp, s_if_eq, s_iload, s_bipush, s_icmp_ge, (s_ldc2 rJ_7_159), s_land, s_l2i, s_invokestatic, rM_7_32, iv0_3, s_if_ne, s_ireturn, s_lushr, s_iinc, s_goto, s_aload_n, (s_getf rF_7_150), ft_7_7, fn_7_7, s_iadd, s_icmp_le, s_isub, s_if_lt, (s_getf rF_7_26), ft_7_6, fn_7_6, s_imul, s_iastore, s_dup, (s_putf rF_7_150), i1_0, up_n, ret_b, bI_0, pk_us, pk_un, up_e, up_up, Decidable.not_not, nI_1, Int32.add_zero, Int32.zero_add, vz_0, tn_0, vz_1, tn_1, vz_2, tn_2, vz_3, tn_3, vz_4, tn_4, vz_5, tn_5, vz_6, tn_6, vz_7, tn_7, vz_8, tn_8, vz_9, tn_9, vz_10, tn_10, vz_11, tn_11, vz_12, tn_12, vz_13, tn_13, vz_14, tn_14, vz_15, tn_15, vz_160, tn_160, vz_161, tn_161, vz_162, tn_162, vz_163, tn_163, vz_164, tn_164, run_s, run_e, run_0, true_and, and_true, and_self, or_true, true_or, or_false, false_or, List.length_cons, List.length_nil, Option.toList_some, Option.toList_none, List.cons_append, List.nil_append, isI_t, isJ_t, isA_t, vI_t, nI32_t, isF_t, gF_t, sF_t, isO_t, isP_t, isP0_t, gE_t, sE_t, isR_t, gO_t, sO_t, isS_t, vS_t, isSc_t, nSc_t, pok_i, pok_o, pok_a, pok_0, pok_1, ret_i, ret_0, ret_1, ret_v, clr_i, clr_j, clr_r, clr_n, cat_i, cat_r, kk0, kk1, kk2, eq_self, Nat.reduceEqDiff, Nat.reduceLeDiff, Nat.reduceAdd, Nat.reduceLT, Nat.reduceSub, Nat.reduceMul, forall_const, imp_false, not_true_eq_false, not_false_eq_true, false_imp_iff, Nat.zero_ne_one, Nat.one_ne_zero, Bool.false_eq_true, reduceCtorEq, ne_eq, Nat.add_zero, Nat.reduceBEq, Bool.or_false, Bool.or_true, Bool.false_or, Bool.true_or, or_self, entL, List.flatMap_cons, List.flatMap_nil, List.reduceReplicate, ↓reduceIte, cat_j, lg_0, lg_1, lg_2, lg_3, lg_4, lg_5, lg_6, lg_7, lg_8, lg_9, lg_10, ls_0, ls_1, ls_2, ls_3, ls_4, ls_5, ls_6, ls_7, ls_8, ls_9, ls_10, st_0, st_1, st_2, st_3, st_4, st_5, st_6, h0]
  exact loop 8 0 x rfl rfl
end M12
