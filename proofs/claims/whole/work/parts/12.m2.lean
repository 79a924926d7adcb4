/-! the reference: worlds, copies, states -/
def bI (p : Prop) [Decidable p] : Int32 := if p then 1 else 0
theorem bI_t {p : Prop} [Decidable p] (h : p) : bI p = 1 := if_pos h
theorem bI_f {p : Prop} [Decidable p] (h : ¬ p) : bI p = 0 := if_neg h
theorem bI_0 {p : Prop} [Decidable p] : (bI p = 0) = ¬ p := by
  by_cases h : p
  · rw [bI_t h]; simp [h]
  · rw [bI_f h]; simp [h]
theorem ret_b {p : Prop} [Decidable p] : (∃ ty, some FieldType.boolean = some ty ∧ narrow ty (.int (bI p)) = .int (bI p)) = True := by
  by_cases h : p
  · rw [bI_t h]; exact ret_1
  · rw [bI_f h]; exact ret_0
def MW (w : Wd) (z spare past slots sv pd told : Nat → Int32) (st ty sp tm : Int32) : Prop := w 137 = mO st ty sp tm ∧ w 138 = ar 0 201 z ∧ w 139 = ar 0 201 spare ∧ w 140 = ar 0 1206 past ∧ w 141 = ar 0 402 slots ∧ w 142 = ar 1 2 sv ∧ w 143 = ar 0 80 pd ∧ w 144 = ar 0 164 told
def FR (w w' : Wd) : Prop := ∀ i, i < 137 ∨ 145 ≤ i → w' i = w i
theorem FR.rf {w : Wd} : FR w w := fun _ _ => rfl
theorem FR.tr {w w1 w2 : Wd} (h : FR w w1) (h2 : FR w1 w2) : FR w w2 := fun i hi => (h2 i hi).trans (h i hi)
theorem FR.up {w : Wd} {k : Nat} {e : Option En} (h : 137 ≤ k) (h2 : k < 145) : FR w (va_up w k e) := fun i hi => up_n (by omega)
section MW
variable {w : Wd} {z spare past slots sv pd told : Nat → Int32} {st ty sp tm : Int32}
theorem MW.uo (h : MW w z spare past slots sv pd told st ty sp tm) (st' ty' sp' tm' : Int32) : MW (va_up w 137 (mO st' ty' sp' tm')) z spare past slots sv pd told st' ty' sp' tm' := by
  obtain ⟨h0, h1, h2, h3, h4, h5, h6, h7⟩ := h
  exact ⟨up_e, (up_n (by decide)).trans h1, (up_n (by decide)).trans h2, (up_n (by decide)).trans h3, (up_n (by decide)).trans h4, (up_n (by decide)).trans h5, (up_n (by decide)).trans h6, (up_n (by decide)).trans h7⟩
theorem MW.uz (h : MW w z spare past slots sv pd told st ty sp tm) (f : Nat → Int32) : MW (va_up w 138 (ar 0 201 f)) f spare past slots sv pd told st ty sp tm := by
  obtain ⟨h0, h1, h2, h3, h4, h5, h6, h7⟩ := h
  exact ⟨(up_n (by decide)).trans h0, up_e, (up_n (by decide)).trans h2, (up_n (by decide)).trans h3, (up_n (by decide)).trans h4, (up_n (by decide)).trans h5, (up_n (by decide)).trans h6, (up_n (by decide)).trans h7⟩
theorem MW.usp (h : MW w z spare past slots sv pd told st ty sp tm) (f : Nat → Int32) : MW (va_up w 139 (ar 0 201 f)) z f past slots sv pd told st ty sp tm := by
  obtain ⟨h0, h1, h2, h3, h4, h5, h6, h7⟩ := h
  exact ⟨(up_n (by decide)).trans h0, (up_n (by decide)).trans h1, up_e, (up_n (by decide)).trans h3, (up_n (by decide)).trans h4, (up_n (by decide)).trans h5, (up_n (by decide)).trans h6, (up_n (by decide)).trans h7⟩
theorem MW.upa (h : MW w z spare past slots sv pd told st ty sp tm) (f : Nat → Int32) : MW (va_up w 140 (ar 0 1206 f)) z spare f slots sv pd told st ty sp tm := by
  obtain ⟨h0, h1, h2, h3, h4, h5, h6, h7⟩ := h
  exact ⟨(up_n (by decide)).trans h0, (up_n (by decide)).trans h1, (up_n (by decide)).trans h2, up_e, (up_n (by decide)).trans h4, (up_n (by decide)).trans h5, (up_n (by decide)).trans h6, (up_n (by decide)).trans h7⟩
theorem MW.usl (h : MW w z spare past slots sv pd told st ty sp tm) (f : Nat → Int32) : MW (va_up w 141 (ar 0 402 f)) z spare past f sv pd told st ty sp tm := by
  obtain ⟨h0, h1, h2, h3, h4, h5, h6, h7⟩ := h
  exact ⟨(up_n (by decide)).trans h0, (up_n (by decide)).trans h1, (up_n (by decide)).trans h2, (up_n (by decide)).trans h3, up_e, (up_n (by decide)).trans h5, (up_n (by decide)).trans h6, (up_n (by decide)).trans h7⟩
theorem MW.usv (h : MW w z spare past slots sv pd told st ty sp tm) (f : Nat → Int32) : MW (va_up w 142 (ar 1 2 f)) z spare past slots f pd told st ty sp tm := by
  obtain ⟨h0, h1, h2, h3, h4, h5, h6, h7⟩ := h
  exact ⟨(up_n (by decide)).trans h0, (up_n (by decide)).trans h1, (up_n (by decide)).trans h2, (up_n (by decide)).trans h3, (up_n (by decide)).trans h4, up_e, (up_n (by decide)).trans h6, (up_n (by decide)).trans h7⟩
theorem MW.upd (h : MW w z spare past slots sv pd told st ty sp tm) (f : Nat → Int32) : MW (va_up w 143 (ar 0 80 f)) z spare past slots sv f told st ty sp tm := by
  obtain ⟨h0, h1, h2, h3, h4, h5, h6, h7⟩ := h
  exact ⟨(up_n (by decide)).trans h0, (up_n (by decide)).trans h1, (up_n (by decide)).trans h2, (up_n (by decide)).trans h3, (up_n (by decide)).trans h4, (up_n (by decide)).trans h5, up_e, (up_n (by decide)).trans h7⟩
theorem MW.uto (h : MW w z spare past slots sv pd told st ty sp tm) (f : Nat → Int32) : MW (va_up w 144 (ar 0 164 f)) z spare past slots sv pd f st ty sp tm := by
  obtain ⟨h0, h1, h2, h3, h4, h5, h6, h7⟩ := h
  exact ⟨(up_n (by decide)).trans h0, (up_n (by decide)).trans h1, (up_n (by decide)).trans h2, (up_n (by decide)).trans h3, (up_n (by decide)).trans h4, (up_n (by decide)).trans h5, (up_n (by decide)).trans h6, up_e⟩
end MW
section M2
variable {G : Gx} {d : Nat} {w : Wd} {z spare past slots sv pd told : Nat → Int32} {st ty sp tm : Int32} {Q : Option Value → Wd → Prop} {m : Nat}
theorem M_in {v lo hi : Int32} (hQ : Q (some (.int (bI (lo ≤ v ∧ v ≤ hi)))) w) : T G (d + 1) 0 95 [.int v, .int lo, .int hi] 145 w Q := by
  refine T_of false hm_95 (by decide +kernel) rfl (Nat.le_of_ble_eq_true rfl) (by decide) (fun q => by cases q) ?_
  intro J hJ
  refine go_ok hJ (fun _ => false) 60 ?_
  simp only [E_95, s_iload_n, s_icmp_lt, s_icmp_gt, s_iconst, s_goto, s_ireturn, ret_b, bI_0, Decidable.not_not, nI_1, Int32.add_zero, Int32.zero_add, vz_0, tn_0, vz_1, tn_1, vz_2, tn_2, vz_3, tn_3, vz_4, tn_4, vz_5, tn_5, vz_6, tn_6, vz_7, tn_7, vz_8, tn_8, vz_9, tn_9, vz_10, tn_10, vz_11, tn_11, vz_12, tn_12, vz_13, tn_13, vz_14, tn_14, vz_15, tn_15, vz_160, tn_160, vz_161, tn_161, vz_162, tn_162, vz_163, tn_163, vz_164, tn_164, run_s, run_e, run_0, true_and, and_true, and_self, or_true, true_or, or_false, false_or, List.length_cons, List.length_nil, Option.toList_some, Option.toList_none, List.cons_append, List.nil_append, isI_t, isJ_t, isA_t, vI_t, nI32_t, isF_t, gF_t, sF_t, isO_t, isP_t, isP0_t, gE_t, sE_t, isR_t, gO_t, sO_t, isS_t, vS_t, isSc_t, nSc_t, pok_i, pok_o, pok_a, pok_0, pok_1, ret_i, ret_0, ret_1, ret_v, clr_i, clr_j, clr_r, clr_n, cat_i, cat_r, kk0, kk1, kk2, eq_self, Nat.reduceEqDiff, Nat.reduceLeDiff, Nat.reduceAdd, Nat.reduceLT, Nat.reduceSub, Nat.reduceMul, forall_const, imp_false, not_true_eq_false, not_false_eq_true, false_imp_iff, Nat.zero_ne_one, Nat.one_ne_zero, Bool.false_eq_true, reduceCtorEq, ne_eq, Nat.add_zero, Nat.reduceBEq, Bool.or_false, Bool.or_true, Bool.false_or, Bool.true_or, or_self, entL, List.flatMap_cons, List.flatMap_nil, List.reduceReplicate, ↓reduceIte, cat_j, lg_0, lg_1, lg_2, lg_3, lg_4, lg_5, lg_6, lg_7, lg_8, lg_9, lg_10, ls_0, ls_1, ls_2, ls_3, ls_4, ls_5, ls_6, ls_7, ls_8, ls_9, ls_10, st_0, st_1, st_2, st_3, st_4, st_5, st_6]
  refine ⟨fun h => ?_, fun h => ⟨fun h2 => ?_, fun h2 => ?_⟩⟩
  · rwa [bI_f (fun q => absurd q.1 (Int32.not_le.mpr h))] at hQ
  · rwa [bI_f (fun q => absurd q.2 (Int32.not_le.mpr h2))] at hQ
  · rwa [bI_t ⟨Int32.not_lt.mp h, Int32.not_lt.mp h2⟩] at hQ
theorem M_isColumn {v : Int32} (hQ : Q (some (.int (bI (0 ≤ v ∧ v ≤ 7)))) w) : T G (d + 2) 0 96 [.int v] 145 w Q := by
  refine T_of false hm_96 (by decide +kernel) rfl (Nat.le_of_ble_eq_true rfl) (by decide) (fun q => by cases q) ?_
  intro J hJ
  refine go_ok hJ (fun _ => false) 60 ?_
  simp only [E_96, s_iload_n, s_iconst, s_bipush, s_invokestatic, rM_7_32, iv0_3, s_ireturn, ret_b, bI_0, Decidable.not_not, nI_1, Int32.add_zero, Int32.zero_add, vz_0, tn_0, vz_1, tn_1, vz_2, tn_2, vz_3, tn_3, vz_4, tn_4, vz_5, tn_5, vz_6, tn_6, vz_7, tn_7, vz_8, tn_8, vz_9, tn_9, vz_10, tn_10, vz_11, tn_11, vz_12, tn_12, vz_13, tn_13, vz_14, tn_14, vz_15, tn_15, vz_160, tn_160, vz_161, tn_161, vz_162, tn_162, vz_163, tn_163, vz_164, tn_164, run_s, run_e, run_0, true_and, and_true, and_self, or_true, true_or, or_false, false_or, List.length_cons, List.length_nil, Option.toList_some, Option.toList_none, List.cons_append, List.nil_append, isI_t, isJ_t, isA_t, vI_t, nI32_t, isF_t, gF_t, sF_t, isO_t, isP_t, isP0_t, gE_t, sE_t, isR_t, gO_t, sO_t, isS_t, vS_t, isSc_t, nSc_t, pok_i, pok_o, pok_a, pok_0, pok_1, ret_i, ret_0, ret_1, ret_v, clr_i, clr_j, clr_r, clr_n, cat_i, cat_r, kk0, kk1, kk2, eq_self, Nat.reduceEqDiff, Nat.reduceLeDiff, Nat.reduceAdd, Nat.reduceLT, Nat.reduceSub, Nat.reduceMul, forall_const, imp_false, not_true_eq_false, not_false_eq_true, false_imp_iff, Nat.zero_ne_one, Nat.one_ne_zero, Bool.false_eq_true, reduceCtorEq, ne_eq, Nat.add_zero, Nat.reduceBEq, Bool.or_false, Bool.or_true, Bool.false_or, Bool.true_or, or_self, entL, List.flatMap_cons, List.flatMap_nil, List.reduceReplicate, ↓reduceIte, cat_j, lg_0, lg_1, lg_2, lg_3, lg_4, lg_5, lg_6, lg_7, lg_8, lg_9, lg_10, ls_0, ls_1, ls_2, ls_3, ls_4, ls_5, ls_6, ls_7, ls_8, ls_9, ls_10, st_0, st_1, st_2, st_3, st_4, st_5, st_6]
  refine call0 (M_in ?_)
  refine go_ok hJ (fun _ => false) 60 ?_
  simp only [E_96, s_iload_n, s_iconst, s_bipush, s_invokestatic, rM_7_32, iv0_3, s_ireturn, ret_b, bI_0, Decidable.not_not, nI_1, Int32.add_zero, Int32.zero_add, vz_0, tn_0, vz_1, tn_1, vz_2, tn_2, vz_3, tn_3, vz_4, tn_4, vz_5, tn_5, vz_6, tn_6, vz_7, tn_7, vz_8, tn_8, vz_9, tn_9, vz_10, tn_10, vz_11, tn_11, vz_12, tn_12, vz_13, tn_13, vz_14, tn_14, vz_15, tn_15, vz_160, tn_160, vz_161, tn_161, vz_162, tn_162, vz_163, tn_163, vz_164, tn_164, run_s, run_e, run_0, true_and, and_true, and_self, or_true, true_or, or_false, false_or, List.length_cons, List.length_nil, Option.toList_some, Option.toList_none, List.cons_append, List.nil_append, isI_t, isJ_t, isA_t, vI_t, nI32_t, isF_t, gF_t, sF_t, isO_t, isP_t, isP0_t, gE_t, sE_t, isR_t, gO_t, sO_t, isS_t, vS_t, isSc_t, nSc_t, pok_i, pok_o, pok_a, pok_0, pok_1, ret_i, ret_0, ret_1, ret_v, clr_i, clr_j, clr_r, clr_n, cat_i, cat_r, kk0, kk1, kk2, eq_self, Nat.reduceEqDiff, Nat.reduceLeDiff, Nat.reduceAdd, Nat.reduceLT, Nat.reduceSub, Nat.reduceMul, forall_const, imp_false, not_true_eq_false, not_false_eq_true, false_imp_iff, Nat.zero_ne_one, Nat.one_ne_zero, Bool.false_eq_true, reduceCtorEq, ne_eq, Nat.add_zero, Nat.reduceBEq, Bool.or_false, Bool.or_true, Bool.false_or, Bool.true_or, or_self, entL, List.flatMap_cons, List.flatMap_nil, List.reduceReplicate, ↓reduceIte, cat_j, lg_0, lg_1, lg_2, lg_3, lg_4, lg_5, lg_6, lg_7, lg_8, lg_9, lg_10, ls_0, ls_1, ls_2, ls_3, ls_4, ls_5, ls_6, ls_7, ls_8, ls_9, ls_10, st_0, st_1, st_2, st_3, st_4, st_5, st_6]
  exact hQ
theorem M_isPrize (hm : w 137 = mO st ty sp tm) (hz : w 138 = ar 0 201 z) {v : Int32} (hQ : Q (some (.int (bI (0 ≤ v ∧ v ≤ z 15 - 1)))) w) : T G (d + 2) 0 99 [.ref 137, .int v] 145 w Q := by
  refine T_of false hm_99 (by decide +kernel) rfl (Nat.le_of_ble_eq_true rfl) (by decide) (fun q => by cases q) ?_
  intro J hJ
  refine go_ok hJ (fun _ => false) 60 ?_
  simp only [E_99, s_iload_n, s_iconst, s_aload_n, (s_getf rF_7_7), ft_7_0, fn_7_0, s_bipush, s_iaload, s_isub, s_invokestatic, rM_7_32, iv0_3, s_ireturn, ret_b, bI_0, Decidable.not_not, nI_1, Int32.add_zero, Int32.zero_add, vz_0, tn_0, vz_1, tn_1, vz_2, tn_2, vz_3, tn_3, vz_4, tn_4, vz_5, tn_5, vz_6, tn_6, vz_7, tn_7, vz_8, tn_8, vz_9, tn_9, vz_10, tn_10, vz_11, tn_11, vz_12, tn_12, vz_13, tn_13, vz_14, tn_14, vz_15, tn_15, vz_160, tn_160, vz_161, tn_161, vz_162, tn_162, vz_163, tn_163, vz_164, tn_164, run_s, run_e, run_0, true_and, and_true, and_self, or_true, true_or, or_false, false_or, List.length_cons, List.length_nil, Option.toList_some, Option.toList_none, List.cons_append, List.nil_append, isI_t, isJ_t, isA_t, vI_t, nI32_t, isF_t, gF_t, sF_t, isO_t, isP_t, isP0_t, gE_t, sE_t, isR_t, gO_t, sO_t, isS_t, vS_t, isSc_t, nSc_t, pok_i, pok_o, pok_a, pok_0, pok_1, ret_i, ret_0, ret_1, ret_v, clr_i, clr_j, clr_r, clr_n, cat_i, cat_r, kk0, kk1, kk2, eq_self, Nat.reduceEqDiff, Nat.reduceLeDiff, Nat.reduceAdd, Nat.reduceLT, Nat.reduceSub, Nat.reduceMul, forall_const, imp_false, not_true_eq_false, not_false_eq_true, false_imp_iff, Nat.zero_ne_one, Nat.one_ne_zero, Bool.false_eq_true, reduceCtorEq, ne_eq, Nat.add_zero, Nat.reduceBEq, Bool.or_false, Bool.or_true, Bool.false_or, Bool.true_or, or_self, entL, List.flatMap_cons, List.flatMap_nil, List.reduceReplicate, ↓reduceIte, cat_j, lg_0, lg_1, lg_2, lg_3, lg_4, lg_5, lg_6, lg_7, lg_8, lg_9, lg_10, ls_0, ls_1, ls_2, ls_3, ls_4, ls_5, ls_6, ls_7, ls_8, ls_9, ls_10, st_0, st_1, st_2, st_3, st_4, st_5, st_6, hm, hz]
  refine call0 (M_in ?_)
  refine go_ok hJ (fun _ => false) 60 ?_
  simp only [E_99, s_iload_n, s_iconst, s_aload_n, (s_getf rF_7_7), ft_7_0, fn_7_0, s_bipush, s_iaload, s_isub, s_invokestatic, rM_7_32, iv0_3, s_ireturn, ret_b, bI_0, Decidable.not_not, nI_1, Int32.add_zero, Int32.zero_add, vz_0, tn_0, vz_1, tn_1, vz_2, tn_2, vz_3, tn_3, vz_4, tn_4, vz_5, tn_5, vz_6, tn_6, vz_7, tn_7, vz_8, tn_8, vz_9, tn_9, vz_10, tn_10, vz_11, tn_11, vz_12, tn_12, vz_13, tn_13, vz_14, tn_14, vz_15, tn_15, vz_160, tn_160, vz_161, tn_161, vz_162, tn_162, vz_163, tn_163, vz_164, tn_164, run_s, run_e, run_0, true_and, and_true, and_self, or_true, true_or, or_false, false_or, List.length_cons, List.length_nil, Option.toList_some, Option.toList_none, List.cons_append, List.nil_append, isI_t, isJ_t, isA_t, vI_t, nI32_t, isF_t, gF_t, sF_t, isO_t, isP_t, isP0_t, gE_t, sE_t, isR_t, gO_t, sO_t, isS_t, vS_t, isSc_t, nSc_t, pok_i, pok_o, pok_a, pok_0, pok_1, ret_i, ret_0, ret_1, ret_v, clr_i, clr_j, clr_r, clr_n, cat_i, cat_r, kk0, kk1, kk2, eq_self, Nat.reduceEqDiff, Nat.reduceLeDiff, Nat.reduceAdd, Nat.reduceLT, Nat.reduceSub, Nat.reduceMul, forall_const, imp_false, not_true_eq_false, not_false_eq_true, false_imp_iff, Nat.zero_ne_one, Nat.one_ne_zero, Bool.false_eq_true, reduceCtorEq, ne_eq, Nat.add_zero, Nat.reduceBEq, Bool.or_false, Bool.or_true, Bool.false_or, Bool.true_or, or_self, entL, List.flatMap_cons, List.flatMap_nil, List.reduceReplicate, ↓reduceIte, cat_j, lg_0, lg_1, lg_2, lg_3, lg_4, lg_5, lg_6, lg_7, lg_8, lg_9, lg_10, ls_0, ls_1, ls_2, ls_3, ls_4, ls_5, ls_6, ls_7, ls_8, ls_9, ls_10, st_0, st_1, st_2, st_3, st_4, st_5, st_6]
  exact hQ
theorem va_cpy0 {f g : Nat → Int32} {a b : Nat} : va_cpy f g a b 0 = g := by
  funext j
  unfold va_cpy
  rw [if_neg (by omega)]
theorem va_cpyS {f g : Nat → Int32} {a b k : Nat} : upd (va_cpy f g a b k) (b + k) (f (a + k)) = va_cpy f g a b (k + 1) := by
  funext j
  unfold va_cpy upd
  by_cases h : j = b + k
  · subst h
    rw [if_pos rfl, if_pos (by omega), Nat.add_sub_cancel_left]
  · rw [if_neg h]
    dsimp only
    by_cases h2 : b ≤ j ∧ j < b + k
    · rw [if_pos h2, if_pos (by omega)]
    · rw [if_neg h2, if_neg (by omega)]
theorem up_up {w : Wd} {i : Nat} {e e' : Option En} : va_up (va_up w i e) i e' = va_up w i e' := by
  funext j
  unfold va_up
  split <;> rfl
theorem up_same {w : Wd} {i : Nat} {e : Option En} (h : w i = e) : va_up w i e = w := by
  funext j
  unfold va_up
  split
  · next h2 => rw [h2, h]
  · rfl
theorem M_copyState {a b la lb fa ta : Nat} {f g : Nat → Int32} (ha : w a = ar 0 la f) (hb : w b = ar 0 lb g) (hab : a ≠ b) (h1 : fa + 201 ≤ la) (h2 : ta + 201 ≤ lb) (hla : la < 2000) (hlb : lb < 2000)
    (hQ : Q none (va_up w b (ar 0 lb (va_cpy f g fa ta 201)))) : T G (d + 1) 0 100 [.ref a, .int (nI fa), .ref b, .int (nI ta)] 145 w Q := by
  refine T_of false hm_100 (by decide +kernel) rfl (Nat.le_of_ble_eq_true rfl) (by decide) (fun q => by cases q) ?_
  intro J hJ
  have loop : ∀ k i, i + k = 201 → J 3 [.ref a, .int (nI fa), .ref b, .int (nI ta), .int (nI i)] [] 145 (va_up w b (ar 0 lb (va_cpy f g fa ta i))) := by
    intro k
    induction k with
    | zero =>
      intro i hi
      refine go_ok hJ (fun _ => false) 60 ?_
      simp only [E_100, s_iconst, s_istore, s_iload, s_sipush, s_icmp_ge, s_aload_n, s_iload_n, s_iadd, s_iaload, s_iastore, s_iinc, s_goto, s_return, ret_b, bI_0, Decidable.not_not, nI_1, Int32.add_zero, Int32.zero_add, vz_0, tn_0, vz_1, tn_1, vz_2, tn_2, vz_3, tn_3, vz_4, tn_4, vz_5, tn_5, vz_6, tn_6, vz_7, tn_7, vz_8, tn_8, vz_9, tn_9, vz_10, tn_10, vz_11, tn_11, vz_12, tn_12, vz_13, tn_13, vz_14, tn_14, vz_15, tn_15, vz_160, tn_160, vz_161, tn_161, vz_162, tn_162, vz_163, tn_163, vz_164, tn_164, run_s, run_e, run_0, true_and, and_true, and_self, or_true, true_or, or_false, false_or, List.length_cons, List.length_nil, Option.toList_some, Option.toList_none, List.cons_append, List.nil_append, isI_t, isJ_t, isA_t, vI_t, nI32_t, isF_t, gF_t, sF_t, isO_t, isP_t, isP0_t, gE_t, sE_t, isR_t, gO_t, sO_t, isS_t, vS_t, isSc_t, nSc_t, pok_i, pok_o, pok_a, pok_0, pok_1, ret_i, ret_0, ret_1, ret_v, clr_i, clr_j, clr_r, clr_n, cat_i, cat_r, kk0, kk1, kk2, eq_self, Nat.reduceEqDiff, Nat.reduceLeDiff, Nat.reduceAdd, Nat.reduceLT, Nat.reduceSub, Nat.reduceMul, forall_const, imp_false, not_true_eq_false, not_false_eq_true, false_imp_iff, Nat.zero_ne_one, Nat.one_ne_zero, Bool.false_eq_true, reduceCtorEq, ne_eq, Nat.add_zero, Nat.reduceBEq, Bool.or_false, Bool.or_true, Bool.false_or, Bool.true_or, or_self, entL, List.flatMap_cons, List.flatMap_nil, List.reduceReplicate, ↓reduceIte, cat_j, lg_0, lg_1, lg_2, lg_3, lg_4, lg_5, lg_6, lg_7, lg_8, lg_9, lg_10, ls_0, ls_1, ls_2, ls_3, ls_4, ls_5, ls_6, ls_7, ls_8, ls_9, ls_10, st_0, st_1, st_2, st_3, st_4, st_5, st_6]
      obtain rfl : i = 201 := hi
      exact ⟨fun _ => hQ, fun h => absurd (Int32.le_refl _) h⟩
    | succ k ih =>
      intro i hi
      have e := ih (i + 1) (by omega)
      refine go_ok hJ (fun p => p == 3) 60 ?_
      simp only [E_100, s_iconst, s_istore, s_iload, s_sipush, s_icmp_ge, s_aload_n, s_iload_n, s_iadd, s_iaload, s_iastore, s_iinc, s_goto, s_return, ret_b, bI_0, Decidable.not_not, nI_1, Int32.add_zero, Int32.zero_add, vz_0, tn_0, vz_1, tn_1, vz_2, tn_2, vz_3, tn_3, vz_4, tn_4, vz_5, tn_5, vz_6, tn_6, vz_7, tn_7, vz_8, tn_8, vz_9, tn_9, vz_10, tn_10, vz_11, tn_11, vz_12, tn_12, vz_13, tn_13, vz_14, tn_14, vz_15, tn_15, vz_160, tn_160, vz_161, tn_161, vz_162, tn_162, vz_163, tn_163, vz_164, tn_164, run_s, run_e, run_0, true_and, and_true, and_self, or_true, true_or, or_false, false_or, List.length_cons, List.length_nil, Option.toList_some, Option.toList_none, List.cons_append, List.nil_append, isI_t, isJ_t, isA_t, vI_t, nI32_t, isF_t, gF_t, sF_t, isO_t, isP_t, isP0_t, gE_t, sE_t, isR_t, gO_t, sO_t, isS_t, vS_t, isSc_t, nSc_t, pok_i, pok_o, pok_a, pok_0, pok_1, ret_i, ret_0, ret_1, ret_v, clr_i, clr_j, clr_r, clr_n, cat_i, cat_r, kk0, kk1, kk2, eq_self, Nat.reduceEqDiff, Nat.reduceLeDiff, Nat.reduceAdd, Nat.reduceLT, Nat.reduceSub, Nat.reduceMul, forall_const, imp_false, not_true_eq_false, not_false_eq_true, false_imp_iff, Nat.zero_ne_one, Nat.one_ne_zero, Bool.false_eq_true, reduceCtorEq, ne_eq, Nat.add_zero, Nat.reduceBEq, Bool.or_false, Bool.or_true, Bool.false_or, Bool.true_or, or_self, entL, List.flatMap_cons, List.flatMap_nil, List.reduceReplicate, ↓reduceIte, cat_j, lg_0, lg_1, lg_2, lg_3, lg_4, lg_5, lg_6, lg_7, lg_8, lg_9, lg_10, ls_0, ls_1, ls_2, ls_3, ls_4, ls_5, ls_6, ls_7, ls_8, ls_9, ls_10, st_0, st_1, st_2, st_3, st_4, st_5, st_6, up_e, up_n hab, ha, up_up, nI_add]
      rw [nI_clamp (n := ta + i) (by omega), nI_clamp (n := fa + i) (by omega), va_cpyS]
      exact ⟨fun h => absurd h (nI_ge (a := i) (b := 201) (by omega) (by omega)), fun _ => ⟨vp_in_nI (by omega) (by omega), vp_in_nI (by omega) (by omega), e⟩⟩
  have e := loop 201 0 (by omega)
  rw [va_cpy0, up_same hb] at e
  refine go_ok hJ (fun p => p == 3) 60 ?_
  simp only [E_100, s_iconst, s_istore, s_iload, s_sipush, s_icmp_ge, s_aload_n, s_iload_n, s_iadd, s_iaload, s_iastore, s_iinc, s_goto, s_return, ret_b, bI_0, Decidable.not_not, nI_1, Int32.add_zero, Int32.zero_add, vz_0, tn_0, vz_1, tn_1, vz_2, tn_2, vz_3, tn_3, vz_4, tn_4, vz_5, tn_5, vz_6, tn_6, vz_7, tn_7, vz_8, tn_8, vz_9, tn_9, vz_10, tn_10, vz_11, tn_11, vz_12, tn_12, vz_13, tn_13, vz_14, tn_14, vz_15, tn_15, vz_160, tn_160, vz_161, tn_161, vz_162, tn_162, vz_163, tn_163, vz_164, tn_164, run_s, run_e, run_0, true_and, and_true, and_self, or_true, true_or, or_false, false_or, List.length_cons, List.length_nil, Option.toList_some, Option.toList_none, List.cons_append, List.nil_append, isI_t, isJ_t, isA_t, vI_t, nI32_t, isF_t, gF_t, sF_t, isO_t, isP_t, isP0_t, gE_t, sE_t, isR_t, gO_t, sO_t, isS_t, vS_t, isSc_t, nSc_t, pok_i, pok_o, pok_a, pok_0, pok_1, ret_i, ret_0, ret_1, ret_v, clr_i, clr_j, clr_r, clr_n, cat_i, cat_r, kk0, kk1, kk2, eq_self, Nat.reduceEqDiff, Nat.reduceLeDiff, Nat.reduceAdd, Nat.reduceLT, Nat.reduceSub, Nat.reduceMul, forall_const, imp_false, not_true_eq_false, not_false_eq_true, false_imp_iff, Nat.zero_ne_one, Nat.one_ne_zero, Bool.false_eq_true, reduceCtorEq, ne_eq, Nat.add_zero, Nat.reduceBEq, Bool.or_false, Bool.or_true, Bool.false_or, Bool.true_or, or_self, entL, List.flatMap_cons, List.flatMap_nil, List.reduceReplicate, ↓reduceIte, cat_j, lg_0, lg_1, lg_2, lg_3, lg_4, lg_5, lg_6, lg_7, lg_8, lg_9, lg_10, ls_0, ls_1, ls_2, ls_3, ls_4, ls_5, ls_6, ls_7, ls_8, ls_9, ls_10, st_0, st_1, st_2, st_3, st_4, st_5, st_6]
  exact e
theorem tmul (n : Nat) : (201 : Int32) * nI n = nI (201 * n) := pk_mul 201 n
/-- the past with one state more; the oldest of six is dropped -/
def recP (z past : Nat → Int32) (s : Nat) : Nat → Int32 := va_cpy z (if s = 6 then fun j => if j < 1005 then past (j + 201) else past j else past) 0 (201 * (if s = 6 then 5 else s)) 201
def recS (s : Nat) : Nat := if s = 6 then 6 else s + 1
theorem M_record {s : Nat} (hs : s ≤ 6) (hM : MW w z spare past slots sv pd told (nI s) ty sp tm) (hQ : ∀ w', MW w' z spare (recP z past s) slots sv pd told (nI (recS s)) ty sp tm → FR w w' → Q none w') : T G (d + 2) 0 101 [.ref 137] 145 w Q := by
  refine T_of false hm_101 (by decide +kernel) rfl (Nat.le_of_ble_eq_true rfl) (by decide) (fun q => by cases q) ?_
  intro J hJ
  have rest : ∀ (t : Nat) (p2 : Nat → Int32) (w1 : Wd) (x : Int32), t ≤ 5 → MW w1 z spare p2 slots sv pd told (nI t) ty sp tm → FR w w1 → (∀ w', MW w' z spare (va_cpy z p2 0 (201 * t) 201) slots sv pd told (nI (t + 1)) ty sp tm → FR w w' → Q none w') → ∀ v : Value, J 50 [.ref 137, v] [] 145 w1 := by
    intro t p2 w1 x ht hM1 hF1 hQ1 v
    obtain ⟨h0, h1, h2, h3, h4, h5, h6, h7⟩ := id hM1
    refine go_ok hJ (fun _ => false) 60 ?_
    simp only [E_101, s_aload_n, (s_getf rF_7_36), ft_7_3, fn_7_3, s_bipush, s_icmp_ne, s_iconst, s_istore_n, s_iload_n, s_sipush, s_icmp_ge, (s_getf rF_7_16), ft_7_2, fn_7_2, s_iadd, s_iaload, s_iastore, s_iinc, s_goto, s_dup, s_isub, (s_putf rF_7_36), (s_getf rF_7_7), ft_7_0, fn_7_0, s_imul, s_invokestatic, rM_7_40, iv0_4, s_return, ret_b, bI_0, Decidable.not_not, nI_1, Int32.add_zero, Int32.zero_add, vz_0, tn_0, vz_1, tn_1, vz_2, tn_2, vz_3, tn_3, vz_4, tn_4, vz_5, tn_5, vz_6, tn_6, vz_7, tn_7, vz_8, tn_8, vz_9, tn_9, vz_10, tn_10, vz_11, tn_11, vz_12, tn_12, vz_13, tn_13, vz_14, tn_14, vz_15, tn_15, vz_160, tn_160, vz_161, tn_161, vz_162, tn_162, vz_163, tn_163, vz_164, tn_164, run_s, run_e, run_0, true_and, and_true, and_self, or_true, true_or, or_false, false_or, List.length_cons, List.length_nil, Option.toList_some, Option.toList_none, List.cons_append, List.nil_append, isI_t, isJ_t, isA_t, vI_t, nI32_t, isF_t, gF_t, sF_t, isO_t, isP_t, isP0_t, gE_t, sE_t, isR_t, gO_t, sO_t, isS_t, vS_t, isSc_t, nSc_t, pok_i, pok_o, pok_a, pok_0, pok_1, ret_i, ret_0, ret_1, ret_v, clr_i, clr_j, clr_r, clr_n, cat_i, cat_r, kk0, kk1, kk2, eq_self, Nat.reduceEqDiff, Nat.reduceLeDiff, Nat.reduceAdd, Nat.reduceLT, Nat.reduceSub, Nat.reduceMul, forall_const, imp_false, not_true_eq_false, not_false_eq_true, false_imp_iff, Nat.zero_ne_one, Nat.one_ne_zero, Bool.false_eq_true, reduceCtorEq, ne_eq, Nat.add_zero, Nat.reduceBEq, Bool.or_false, Bool.or_true, Bool.false_or, Bool.true_or, or_self, entL, List.flatMap_cons, List.flatMap_nil, List.reduceReplicate, ↓reduceIte, cat_j, lg_0, lg_1, lg_2, lg_3, lg_4, lg_5, lg_6, lg_7, lg_8, lg_9, lg_10, ls_0, ls_1, ls_2, ls_3, ls_4, ls_5, ls_6, ls_7, ls_8, ls_9, ls_10, st_0, st_1, st_2, st_3, st_4, st_5, st_6, h0, h1, h3, tmul]
    refine call0 (M_copyState (a := 138) (b := 140) (fa := 0) (ta := 201 * t) h1 h3 (by decide) (by omega) (by omega) (by omega) (by omega) ?_)
    have hM2 := hM1.upa (va_cpy z p2 0 (201 * t) 201)
    have hF2 : FR w1 (va_up w1 140 (ar 0 1206 (va_cpy z p2 0 (201 * t) 201))) := FR.up (by decide) (by decide)
    generalize va_up w1 140 (ar 0 1206 (va_cpy z p2 0 (201 * t) 201)) = w2 at hM2 hF2 ⊢
    obtain ⟨g0, g1, g2, g3, g4, g5, g6, g7⟩ := id hM2
    refine go_ok hJ (fun _ => false) 60 ?_
    simp only [E_101, s_aload_n, (s_getf rF_7_36), ft_7_3, fn_7_3, s_bipush, s_icmp_ne, s_iconst, s_istore_n, s_iload_n, s_sipush, s_icmp_ge, (s_getf rF_7_16), ft_7_2, fn_7_2, s_iadd, s_iaload, s_iastore, s_iinc, s_goto, s_dup, s_isub, (s_putf rF_7_36), (s_getf rF_7_7), ft_7_0, fn_7_0, s_imul, s_invokestatic, rM_7_40, iv0_4, s_return, ret_b, bI_0, Decidable.not_not, nI_1, Int32.add_zero, Int32.zero_add, vz_0, tn_0, vz_1, tn_1, vz_2, tn_2, vz_3, tn_3, vz_4, tn_4, vz_5, tn_5, vz_6, tn_6, vz_7, tn_7, vz_8, tn_8, vz_9, tn_9, vz_10, tn_10, vz_11, tn_11, vz_12, tn_12, vz_13, tn_13, vz_14, tn_14, vz_15, tn_15, vz_160, tn_160, vz_161, tn_161, vz_162, tn_162, vz_163, tn_163, vz_164, tn_164, run_s, run_e, run_0, true_and, and_true, and_self, or_true, true_or, or_false, false_or, List.length_cons, List.length_nil, Option.toList_some, Option.toList_none, List.cons_append, List.nil_append, isI_t, isJ_t, isA_t, vI_t, nI32_t, isF_t, gF_t, sF_t, isO_t, isP_t, isP0_t, gE_t, sE_t, isR_t, gO_t, sO_t, isS_t, vS_t, isSc_t, nSc_t, pok_i, pok_o, pok_a, pok_0, pok_1, ret_i, ret_0, ret_1, ret_v, clr_i, clr_j, clr_r, clr_n, cat_i, cat_r, kk0, kk1, kk2, eq_self, Nat.reduceEqDiff, Nat.reduceLeDiff, Nat.reduceAdd, Nat.reduceLT, Nat.reduceSub, Nat.reduceMul, forall_const, imp_false, not_true_eq_false, not_false_eq_true, false_imp_iff, Nat.zero_ne_one, Nat.one_ne_zero, Bool.false_eq_true, reduceCtorEq, ne_eq, Nat.add_zero, Nat.reduceBEq, Bool.or_false, Bool.or_true, Bool.false_or, Bool.true_or, or_self, entL, List.flatMap_cons, List.flatMap_nil, List.reduceReplicate, ↓reduceIte, cat_j, lg_0, lg_1, lg_2, lg_3, lg_4, lg_5, lg_6, lg_7, lg_8, lg_9, lg_10, ls_0, ls_1, ls_2, ls_3, ls_4, ls_5, ls_6, ls_7, ls_8, ls_9, ls_10, st_0, st_1, st_2, st_3, st_4, st_5, st_6, g0]
    exact hQ1 _ (hM2.uo _ _ _ _) ((hF1.tr hF2).tr (FR.up (by decide) (by decide)))
  obtain ⟨h0, h1, h2, h3, h4, h5, h6, h7⟩ := id hM
  by_cases h6' : s = 6
  · subst h6'
    have loop : ∀ k i, i + k = 1005 → ∀ v : Value, J 11 [.ref 137, .int (nI i)] [] 145 (va_up w 140 (ar 0 1206 (fun j => if j < i then past (j + 201) else past j))) := by
      intro k
      induction k with
      | zero =>
        intro i hi v
        obtain rfl : i = 1005 := hi
        have hM1 := hM.upa (fun j => if j < 1005 then past (j + 201) else past j)
        have hF1 : FR w (va_up w 140 (ar 0 1206 (fun j => if j < 1005 then past (j + 201) else past j))) := FR.up (by decide) (by decide)
        generalize va_up w 140 (ar 0 1206 (fun j => if j < 1005 then past (j + 201) else past j)) = w1 at hM1 hF1 ⊢
        obtain ⟨g0, g1, g2, g3, g4, g5, g6, g7⟩ := id hM1
        have e := rest 5 _ _ 0 (by decide) (hM1.uo (nI 5) ty sp tm) (hF1.tr (FR.up (by decide) (by decide))) (fun w' hm hf => hQ w' (by simpa [recP, recS] using hm) hf) (.int (nI 1005))
        refine go_ok hJ (fun p => p == 50) 60 ?_
        simp only [E_101, s_aload_n, (s_getf rF_7_36), ft_7_3, fn_7_3, s_bipush, s_icmp_ne, s_iconst, s_istore_n, s_iload_n, s_sipush, s_icmp_ge, (s_getf rF_7_16), ft_7_2, fn_7_2, s_iadd, s_iaload, s_iastore, s_iinc, s_goto, s_dup, s_isub, (s_putf rF_7_36), (s_getf rF_7_7), ft_7_0, fn_7_0, s_imul, s_invokestatic, rM_7_40, iv0_4, s_return, ret_b, bI_0, Decidable.not_not, nI_1, Int32.add_zero, Int32.zero_add, vz_0, tn_0, vz_1, tn_1, vz_2, tn_2, vz_3, tn_3, vz_4, tn_4, vz_5, tn_5, vz_6, tn_6, vz_7, tn_7, vz_8, tn_8, vz_9, tn_9, vz_10, tn_10, vz_11, tn_11, vz_12, tn_12, vz_13, tn_13, vz_14, tn_14, vz_15, tn_15, vz_160, tn_160, vz_161, tn_161, vz_162, tn_162, vz_163, tn_163, vz_164, tn_164, run_s, run_e, run_0, true_and, and_true, and_self, or_true, true_or, or_false, false_or, List.length_cons, List.length_nil, Option.toList_some, Option.toList_none, List.cons_append, List.nil_append, isI_t, isJ_t, isA_t, vI_t, nI32_t, isF_t, gF_t, sF_t, isO_t, isP_t, isP0_t, gE_t, sE_t, isR_t, gO_t, sO_t, isS_t, vS_t, isSc_t, nSc_t, pok_i, pok_o, pok_a, pok_0, pok_1, ret_i, ret_0, ret_1, ret_v, clr_i, clr_j, clr_r, clr_n, cat_i, cat_r, kk0, kk1, kk2, eq_self, Nat.reduceEqDiff, Nat.reduceLeDiff, Nat.reduceAdd, Nat.reduceLT, Nat.reduceSub, Nat.reduceMul, forall_const, imp_false, not_true_eq_false, not_false_eq_true, false_imp_iff, Nat.zero_ne_one, Nat.one_ne_zero, Bool.false_eq_true, reduceCtorEq, ne_eq, Nat.add_zero, Nat.reduceBEq, Bool.or_false, Bool.or_true, Bool.false_or, Bool.true_or, or_self, entL, List.flatMap_cons, List.flatMap_nil, List.reduceReplicate, ↓reduceIte, cat_j, lg_0, lg_1, lg_2, lg_3, lg_4, lg_5, lg_6, lg_7, lg_8, lg_9, lg_10, ls_0, ls_1, ls_2, ls_3, ls_4, ls_5, ls_6, ls_7, ls_8, ls_9, ls_10, st_0, st_1, st_2, st_3, st_4, st_5, st_6, g0]
        exact ⟨fun _ => e, fun h => absurd (Int32.le_refl _) h⟩
      | succ k ih =>
        intro i hi v
        have e := ih (i + 1) (by omega) v
        have hup : upd (fun j => if j < i then past (j + 201) else past j) i (past (i + 201)) = fun j => if j < i + 1 then past (j + 201) else past j := by
          funext j
          unfold upd
          by_cases h1 : j = i
          · subst h1; simp
          · by_cases h2 : j < i
            · simp [h1, h2, show j < i + 1 by omega]
            · simp [h1, h2, show ¬ j < i + 1 by omega]
        have hs1 : (nI i + 201 : Int32) = nI (i + 201) := nI_add i 201
        have hlt : ¬ i + 201 < i := by omega
        refine go_ok hJ (fun p => p == 11 || p == 50) 60 ?_
        simp only [E_101, s_aload_n, (s_getf rF_7_36), ft_7_3, fn_7_3, s_bipush, s_icmp_ne, s_iconst, s_istore_n, s_iload_n, s_sipush, s_icmp_ge, (s_getf rF_7_16), ft_7_2, fn_7_2, s_iadd, s_iaload, s_iastore, s_iinc, s_goto, s_dup, s_isub, (s_putf rF_7_36), (s_getf rF_7_7), ft_7_0, fn_7_0, s_imul, s_invokestatic, rM_7_40, iv0_4, s_return, ret_b, bI_0, Decidable.not_not, nI_1, Int32.add_zero, Int32.zero_add, vz_0, tn_0, vz_1, tn_1, vz_2, tn_2, vz_3, tn_3, vz_4, tn_4, vz_5, tn_5, vz_6, tn_6, vz_7, tn_7, vz_8, tn_8, vz_9, tn_9, vz_10, tn_10, vz_11, tn_11, vz_12, tn_12, vz_13, tn_13, vz_14, tn_14, vz_15, tn_15, vz_160, tn_160, vz_161, tn_161, vz_162, tn_162, vz_163, tn_163, vz_164, tn_164, run_s, run_e, run_0, true_and, and_true, and_self, or_true, true_or, or_false, false_or, List.length_cons, List.length_nil, Option.toList_some, Option.toList_none, List.cons_append, List.nil_append, isI_t, isJ_t, isA_t, vI_t, nI32_t, isF_t, gF_t, sF_t, isO_t, isP_t, isP0_t, gE_t, sE_t, isR_t, gO_t, sO_t, isS_t, vS_t, isSc_t, nSc_t, pok_i, pok_o, pok_a, pok_0, pok_1, ret_i, ret_0, ret_1, ret_v, clr_i, clr_j, clr_r, clr_n, cat_i, cat_r, kk0, kk1, kk2, eq_self, Nat.reduceEqDiff, Nat.reduceLeDiff, Nat.reduceAdd, Nat.reduceLT, Nat.reduceSub, Nat.reduceMul, forall_const, imp_false, not_true_eq_false, not_false_eq_true, false_imp_iff, Nat.zero_ne_one, Nat.one_ne_zero, Bool.false_eq_true, reduceCtorEq, ne_eq, Nat.add_zero, Nat.reduceBEq, Bool.or_false, Bool.or_true, Bool.false_or, Bool.true_or, or_self, entL, List.flatMap_cons, List.flatMap_nil, List.reduceReplicate, ↓reduceIte, cat_j, lg_0, lg_1, lg_2, lg_3, lg_4, lg_5, lg_6, lg_7, lg_8, lg_9, lg_10, ls_0, ls_1, ls_2, ls_3, ls_4, ls_5, ls_6, ls_7, ls_8, ls_9, ls_10, st_0, st_1, st_2, st_3, st_4, st_5, st_6, up_e, up_n (show ¬ 137 = 140 by decide), h0, up_up, hs1]
        rw [nI_clamp (n := i) (by omega), nI_clamp (n := i + 201) (by omega), if_neg hlt, hup]
        exact ⟨fun h => absurd h (nI_ge (a := i) (b := 1005) (by omega) (by omega)), fun _ => ⟨vp_in_nI (by omega) (by omega), vp_in_nI (by omega) (by omega), e⟩⟩
    have e := loop 1005 0 (by omega) .null
    rw [show (fun j => if j < 0 then past (j + 201) else past j) = past from funext fun j => if_neg (by omega), up_same h3] at e
    refine go_ok hJ (fun p => p == 11 || p == 50) 60 ?_
    simp only [E_101, s_aload_n, (s_getf rF_7_36), ft_7_3, fn_7_3, s_bipush, s_icmp_ne, s_iconst, s_istore_n, s_iload_n, s_sipush, s_icmp_ge, (s_getf rF_7_16), ft_7_2, fn_7_2, s_iadd, s_iaload, s_iastore, s_iinc, s_goto, s_dup, s_isub, (s_putf rF_7_36), (s_getf rF_7_7), ft_7_0, fn_7_0, s_imul, s_invokestatic, rM_7_40, iv0_4, s_return, ret_b, bI_0, Decidable.not_not, nI_1, Int32.add_zero, Int32.zero_add, vz_0, tn_0, vz_1, tn_1, vz_2, tn_2, vz_3, tn_3, vz_4, tn_4, vz_5, tn_5, vz_6, tn_6, vz_7, tn_7, vz_8, tn_8, vz_9, tn_9, vz_10, tn_10, vz_11, tn_11, vz_12, tn_12, vz_13, tn_13, vz_14, tn_14, vz_15, tn_15, vz_160, tn_160, vz_161, tn_161, vz_162, tn_162, vz_163, tn_163, vz_164, tn_164, run_s, run_e, run_0, true_and, and_true, and_self, or_true, true_or, or_false, false_or, List.length_cons, List.length_nil, Option.toList_some, Option.toList_none, List.cons_append, List.nil_append, isI_t, isJ_t, isA_t, vI_t, nI32_t, isF_t, gF_t, sF_t, isO_t, isP_t, isP0_t, gE_t, sE_t, isR_t, gO_t, sO_t, isS_t, vS_t, isSc_t, nSc_t, pok_i, pok_o, pok_a, pok_0, pok_1, ret_i, ret_0, ret_1, ret_v, clr_i, clr_j, clr_r, clr_n, cat_i, cat_r, kk0, kk1, kk2, eq_self, Nat.reduceEqDiff, Nat.reduceLeDiff, Nat.reduceAdd, Nat.reduceLT, Nat.reduceSub, Nat.reduceMul, forall_const, imp_false, not_true_eq_false, not_false_eq_true, false_imp_iff, Nat.zero_ne_one, Nat.one_ne_zero, Bool.false_eq_true, reduceCtorEq, ne_eq, Nat.add_zero, Nat.reduceBEq, Bool.or_false, Bool.or_true, Bool.false_or, Bool.true_or, or_self, entL, List.flatMap_cons, List.flatMap_nil, List.reduceReplicate, ↓reduceIte, cat_j, lg_0, lg_1, lg_2, lg_3, lg_4, lg_5, lg_6, lg_7, lg_8, lg_9, lg_10, ls_0, ls_1, ls_2, ls_3, ls_4, ls_5, ls_6, ls_7, ls_8, ls_9, ls_10, st_0, st_1, st_2, st_3, st_4, st_5, st_6, h0]
    exact ⟨fun q => absurd rfl q, fun _ => e⟩
  · have e := rest s past w 0 (by omega) hM FR.rf (fun w' hm hf => hQ w' (by simpa [recP, recS, h6'] using hm) hf) .null
    have hne : ¬ nI s = 6 := fun q => h6' ((nI_eq (a := s) (b := 6) (by omega) (by omega)).mp q)
    refine go_ok hJ (fun p => p == 11 || p == 50) 60 ?_
    simp only [E_101, s_aload_n, (s_getf rF_7_36), ft_7_3, fn_7_3, s_bipush, s_icmp_ne, s_iconst, s_istore_n, s_iload_n, s_sipush, s_icmp_ge, (s_getf rF_7_16), ft_7_2, fn_7_2, s_iadd, s_iaload, s_iastore, s_iinc, s_goto, s_dup, s_isub, (s_putf rF_7_36), (s_getf rF_7_7), ft_7_0, fn_7_0, s_imul, s_invokestatic, rM_7_40, iv0_4, s_return, ret_b, bI_0, Decidable.not_not, nI_1, Int32.add_zero, Int32.zero_add, vz_0, tn_0, vz_1, tn_1, vz_2, tn_2, vz_3, tn_3, vz_4, tn_4, vz_5, tn_5, vz_6, tn_6, vz_7, tn_7, vz_8, tn_8, vz_9, tn_9, vz_10, tn_10, vz_11, tn_11, vz_12, tn_12, vz_13, tn_13, vz_14, tn_14, vz_15, tn_15, vz_160, tn_160, vz_161, tn_161, vz_162, tn_162, vz_163, tn_163, vz_164, tn_164, run_s, run_e, run_0, true_and, and_true, and_self, or_true, true_or, or_false, false_or, List.length_cons, List.length_nil, Option.toList_some, Option.toList_none, List.cons_append, List.nil_append, isI_t, isJ_t, isA_t, vI_t, nI32_t, isF_t, gF_t, sF_t, isO_t, isP_t, isP0_t, gE_t, sE_t, isR_t, gO_t, sO_t, isS_t, vS_t, isSc_t, nSc_t, pok_i, pok_o, pok_a, pok_0, pok_1, ret_i, ret_0, ret_1, ret_v, clr_i, clr_j, clr_r, clr_n, cat_i, cat_r, kk0, kk1, kk2, eq_self, Nat.reduceEqDiff, Nat.reduceLeDiff, Nat.reduceAdd, Nat.reduceLT, Nat.reduceSub, Nat.reduceMul, forall_const, imp_false, not_true_eq_false, not_false_eq_true, false_imp_iff, Nat.zero_ne_one, Nat.one_ne_zero, Bool.false_eq_true, reduceCtorEq, ne_eq, Nat.add_zero, Nat.reduceBEq, Bool.or_false, Bool.or_true, Bool.false_or, Bool.true_or, or_self, entL, List.flatMap_cons, List.flatMap_nil, List.reduceReplicate, ↓reduceIte, cat_j, lg_0, lg_1, lg_2, lg_3, lg_4, lg_5, lg_6, lg_7, lg_8, lg_9, lg_10, ls_0, ls_1, ls_2, ls_3, ls_4, ls_5, ls_6, ls_7, ls_8, ls_9, ls_10, st_0, st_1, st_2, st_3, st_4, st_5, st_6, h0]
    exact ⟨fun _ => e, fun q => absurd q hne⟩
end M2
