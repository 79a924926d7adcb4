/-! the class: its whole world, its history, a new object -/
abbrev Yy : Type := Nat → Nat → Int32
abbrev ccO : Option En := some (.inr (.inr (6, [.ref 1, .ref 14, .ref 15, .ref 16, .ref 109])))
abbrev hiO (sz sp : Int32) : Option En := some (.inr (.inr (2, [.ref 17, .int sz, .int sp])))
abbrev paO (v0 v1 v2 v3 v4 v5 v6 : Int32) : Option En := some (.inr (.inr (3, [.ref 110, .int v0, .int v1, .int v2, .int v3, .int v4, .int v5, .int v6])))
abbrev rA (n : Nat) (g : Nat → Option Nat) : Option En := some (.inr (.inl (n, g)))
def CS (w : Wd) (fs ls ms : Nat → Int32) : Prop := w 1001 = ar 4 6 fs ∧ w 1002 = ar 4 6 ls ∧ w 1003 = ar 4 6 ms
def CW (w : Wd) (y : Yy) (hs sl : Nat → Yy) (sv P pd : Nat → Int32) (sz sp : Int32) : Prop :=
  (w 0 = ccO ∧ CR 1 w y ∧ w 15 = ar 1 2 sv ∧ w 16 = hiO sz sp ∧ w 109 = paO (P 0) (P 1) (P 2) (P 3) (P 4) (P 5) (P 6) ∧ w 110 = ar 2 80 pd) ∧ (∃ g, w 14 = rA 2 g ∧ ∀ j, j < 2 → g j = some (111 + 13 * j)) ∧ (∃ g, w 17 = rA 7 g ∧ ∀ j, j < 7 → g j = some (18 + 13 * j)) ∧ (∀ j, j < 7 → CR (18 + 13 * j) w (hs j)) ∧ (∀ j, j < 2 → CR (111 + 13 * j) w (sl j))
def sq (hs : Nat → Yy) (t : Nat) (v : Yy) : Nat → Yy := fun j => if j = t then v else hs j
abbrev FC (w w' : Wd) : Prop := FB 0 137 w w'
theorem FB.wk {b e b' e' : Nat} {w w' : Wd} (h : FB b e w w') (h1 : b' ≤ b) (h2 : e ≤ e') : FB b' e' w w' := fun i hi => h i (by omega)
section CWu
variable {w w' : Wd} {y : Yy} {hs sl : Nat → Yy} {sv P pd : Nat → Int32} {sz sp : Int32}
theorem CW.cr (h : CW w y hs sl sv P pd sz sp) {y' : Yy} (hC : CR 1 w' y') (hF : FX w w') : CW w' y' hs sl sv P pd sz sp := by
  obtain ⟨⟨a1, a2, a3, a4, a5, a6⟩, ⟨g, b1, b2⟩, ⟨g2, c1, c2⟩, e, f⟩ := h
  refine ⟨⟨(hF 0 (by omega)).trans a1, hC, (hF 15 (by omega)).trans a3, (hF 16 (by omega)).trans a4, (hF 109 (by omega)).trans a5, (hF 110 (by omega)).trans a6⟩, ⟨g, (hF 14 (by omega)).trans b1, b2⟩, ⟨g2, (hF 17 (by omega)).trans c1, c2⟩, fun j hj => (e j hj).fr fun i hi => hF _ (by omega), fun j hj => (f j hj).fr fun i hi => hF _ (by omega)⟩
theorem CW.st (h : CW w y hs sl sv P pd sz sp) {t : Nat} (ht : t < 7) {yb : Yy} (hC : CR (18 + 13 * t) w' yb) (hF : FB (18 + 13 * t) (18 + 13 * t + 13) w w') : CW w' y (sq hs t yb) sl sv P pd sz sp := by
  obtain ⟨⟨a1, a2, a3, a4, a5, a6⟩, ⟨g, b1, b2⟩, ⟨g2, c1, c2⟩, e, f⟩ := h
  refine ⟨⟨(hF 0 (by omega)).trans a1, a2.fr fun i hi => hF _ (by omega), (hF 15 (by omega)).trans a3, (hF 16 (by omega)).trans a4, (hF 109 (by omega)).trans a5, (hF 110 (by omega)).trans a6⟩, ⟨g, (hF 14 (by omega)).trans b1, b2⟩, ⟨g2, (hF 17 (by omega)).trans c1, c2⟩, fun j hj => ?_, fun j hj => (f j hj).fr fun i hi => hF _ (by omega)⟩
  unfold sq
  by_cases q : j = t
  · subst q
    rw [if_pos rfl]
    exact hC
  · rw [if_neg q]
    exact (e j hj).fr fun i hi => hF _ (by omega)
theorem CW.sk (h : CW w y hs sl sv P pd sz sp) {t : Nat} (ht : t < 2) {yb : Yy} (hC : CR (111 + 13 * t) w' yb) (hF : FB (111 + 13 * t) (111 + 13 * t + 13) w w') : CW w' y hs (sq sl t yb) sv P pd sz sp := by
  obtain ⟨⟨a1, a2, a3, a4, a5, a6⟩, ⟨g, b1, b2⟩, ⟨g2, c1, c2⟩, e, f⟩ := h
  refine ⟨⟨(hF 0 (by omega)).trans a1, a2.fr fun i hi => hF _ (by omega), (hF 15 (by omega)).trans a3, (hF 16 (by omega)).trans a4, (hF 109 (by omega)).trans a5, (hF 110 (by omega)).trans a6⟩, ⟨g, (hF 14 (by omega)).trans b1, b2⟩, ⟨g2, (hF 17 (by omega)).trans c1, c2⟩, fun j hj => (e j hj).fr fun i hi => hF _ (by omega), fun j hj => ?_⟩
  unfold sq
  by_cases q : j = t
  · subst q
    rw [if_pos rfl]
    exact hC
  · rw [if_neg q]
    exact (f j hj).fr fun i hi => hF _ (by omega)
theorem CW.hh (h : CW w y hs sl sv P pd sz sp) (a b : Int32) : CW (va_up w 16 (hiO a b)) y hs sl sv P pd a b := by
  obtain ⟨⟨a1, a2, a3, a4, a5, a6⟩, ⟨g, b1, b2⟩, ⟨g2, c1, c2⟩, e, f⟩ := h
  exact ⟨⟨(up_n (by omega)).trans a1, a2.fr fun i hi => up_n (by omega), (up_n (by omega)).trans a3, up_e, (up_n (by omega)).trans a5, (up_n (by omega)).trans a6⟩, ⟨g, (up_n (by omega)).trans b1, b2⟩, ⟨g2, (up_n (by omega)).trans c1, c2⟩, fun j hj => (e j hj).fr fun i hi => up_n (by omega), fun j hj => (f j hj).fr fun i hi => up_n (by omega)⟩
theorem CW.sa (h : CW w y hs sl sv P pd sz sp) (a : Nat → Int32) : CW (va_up w 15 (ar 1 2 a)) y hs sl a P pd sz sp := by
  obtain ⟨⟨a1, a2, a3, a4, a5, a6⟩, ⟨g, b1, b2⟩, ⟨g2, c1, c2⟩, e, f⟩ := h
  exact ⟨⟨(up_n (by omega)).trans a1, a2.fr fun i hi => up_n (by omega), up_e, (up_n (by omega)).trans a4, (up_n (by omega)).trans a5, (up_n (by omega)).trans a6⟩, ⟨g, (up_n (by omega)).trans b1, b2⟩, ⟨g2, (up_n (by omega)).trans c1, c2⟩, fun j hj => (e j hj).fr fun i hi => up_n (by omega), fun j hj => (f j hj).fr fun i hi => up_n (by omega)⟩
/-- a pad that changed, all else as it was -/
theorem CW.pa (h : CW w y hs sl sv P pd sz sp) {P' pd' : Nat → Int32} (h1 : w' 109 = paO (P' 0) (P' 1) (P' 2) (P' 3) (P' 4) (P' 5) (P' 6)) (h2 : w' 110 = ar 2 80 pd') (hF : FB 109 111 w w') : CW w' y hs sl sv P' pd' sz sp := by
  obtain ⟨⟨a1, a2, a3, a4, a5, a6⟩, ⟨g, b1, b2⟩, ⟨g2, c1, c2⟩, e, f⟩ := h
  exact ⟨⟨(hF 0 (by omega)).trans a1, a2.fr fun i hi => hF _ (by omega), (hF 15 (by omega)).trans a3, (hF 16 (by omega)).trans a4, h1, h2⟩, ⟨g, (hF 14 (by omega)).trans b1, b2⟩, ⟨g2, (hF 17 (by omega)).trans c1, c2⟩, fun j hj => (e j hj).fr fun i hi => hF _ (by omega), fun j hj => (f j hj).fr fun i hi => hF _ (by omega)⟩
end CWu
section C7
variable {G : Gx} {d : Nat} {w : Wd} {y : Yy} {hs sl : Nat → Yy} {sv P pd : Nat → Int32} {sz sp : Int32} {t s : Nat} {Q : Option Value → Wd → Prop}
theorem C_note (hW : CW w y hs sl sv P pd sz (nI t)) (ht : t < 7) (hQ : ∀ w' yb, yEq yb y → CW w' y (sq hs t yb) sl sv P pd sz (nI t) → FC w w' → Q none w') : T G (d + 3) 0 23 [.ref 16, .ref 1] 145 w Q := by
  refine T_of false hm_23 (by decide +kernel) rfl (Nat.le_of_ble_eq_true rfl) (by decide) (fun q => by cases q) ?_
  intro J hJ
  obtain ⟨⟨a1, a2, a3, a4, a5, a6⟩, ⟨g, b1, b2⟩, ⟨g2, c1, c2⟩, e, f⟩ := id hW
  have hv := vp_in_nI ht (show 7 < 2147483648 by decide)
  obtain ⟨z0, -⟩ := (e t ht).at
  refine go_ok hJ (fun _ => false) 60 ?_
  simp -implicitDefEqProofs only [E_23, s_aload_n, (s_getf rF_2_11), ft_2_0, fn_2_0, (s_getf rF_2_18), ft_2_2, fn_2_2, s_aaload, s_invokevirtual, rM_2_22, iv5_2, hc_1, s_return, i1_0, up_n, ret_b, bI_0, pk_us, pk_un, up_e, up_up, Decidable.not_not, nI_1, Int32.add_zero, Int32.zero_add, vz_0, tn_0, vz_1, tn_1, vz_2, tn_2, vz_3, tn_3, vz_4, tn_4, vz_5, tn_5, vz_6, tn_6, vz_7, tn_7, vz_8, tn_8, vz_9, tn_9, vz_10, tn_10, vz_11, tn_11, vz_12, tn_12, vz_13, tn_13, vz_14, tn_14, vz_15, tn_15, vz_160, tn_160, vz_161, tn_161, vz_162, tn_162, vz_163, tn_163, vz_164, tn_164, vs_0, vs_1, vs_2, vs_3, vs_4, vs_5, run_s, run_e, run_0, true_and, and_true, and_self, or_true, true_or, or_false, false_or, List.length_cons, List.length_nil, Option.toList_some, Option.toList_none, List.cons_append, List.nil_append, isI_t, isJ_t, isA_t, vI_t, nI32_t, isF_t, gF_t, sF_t, isO_t, isP_t, isP0_t, gE_t, sE_t, isR_t, gO_t, sO_t, isS_t, vS_t, isSc_t, nSc_t, pok_i, pok_o, pok_a, pok_0, pok_1, ret_i, ret_0, ret_1, ret_v, clr_i, clr_j, clr_r, clr_n, cat_i, cat_r, kk0, kk1, kk2, eq_self, Nat.reduceEqDiff, Nat.reduceLeDiff, Nat.reduceAdd, Nat.reduceLT, Nat.reduceSub, Nat.reduceMul, forall_const, imp_false, not_true_eq_false, not_false_eq_true, false_imp_iff, Nat.zero_ne_one, Nat.one_ne_zero, Bool.false_eq_true, reduceCtorEq, ne_eq, Nat.add_zero, Nat.reduceBEq, Bool.or_false, Bool.or_true, Bool.false_or, Bool.true_or, or_self, entL, List.flatMap_cons, List.flatMap_nil, List.reduceReplicate, ↓reduceIte, cat_j, lg_0, lg_1, lg_2, lg_3, lg_4, lg_5, lg_6, lg_7, lg_8, lg_9, lg_10, ls_0, ls_1, ls_2, ls_3, ls_4, ls_5, ls_6, ls_7, ls_8, ls_9, ls_10, st_0, st_1, st_2, st_3, st_4, st_5, st_6, a4, c1, hv, c2 t ht, nI_clamp (n := t) (by omega), z0]
  refine call0 (C_copyFrom (a := 18 + 13 * t) (b := 1) (by omega) (by omega) (e t ht) a2 fun w1 yb hC1 hE hF1 => ?_)
  refine go_ok hJ (fun _ => false) 60 ?_
  simp -implicitDefEqProofs only [E_23, s_aload_n, (s_getf rF_2_11), ft_2_0, fn_2_0, (s_getf rF_2_18), ft_2_2, fn_2_2, s_aaload, s_invokevirtual, rM_2_22, iv5_2, hc_1, s_return, i1_0, up_n, ret_b, bI_0, pk_us, pk_un, up_e, up_up, Decidable.not_not, nI_1, Int32.add_zero, Int32.zero_add, vz_0, tn_0, vz_1, tn_1, vz_2, tn_2, vz_3, tn_3, vz_4, tn_4, vz_5, tn_5, vz_6, tn_6, vz_7, tn_7, vz_8, tn_8, vz_9, tn_9, vz_10, tn_10, vz_11, tn_11, vz_12, tn_12, vz_13, tn_13, vz_14, tn_14, vz_15, tn_15, vz_160, tn_160, vz_161, tn_161, vz_162, tn_162, vz_163, tn_163, vz_164, tn_164, vs_0, vs_1, vs_2, vs_3, vs_4, vs_5, run_s, run_e, run_0, true_and, and_true, and_self, or_true, true_or, or_false, false_or, List.length_cons, List.length_nil, Option.toList_some, Option.toList_none, List.cons_append, List.nil_append, isI_t, isJ_t, isA_t, vI_t, nI32_t, isF_t, gF_t, sF_t, isO_t, isP_t, isP0_t, gE_t, sE_t, isR_t, gO_t, sO_t, isS_t, vS_t, isSc_t, nSc_t, pok_i, pok_o, pok_a, pok_0, pok_1, ret_i, ret_0, ret_1, ret_v, clr_i, clr_j, clr_r, clr_n, cat_i, cat_r, kk0, kk1, kk2, eq_self, Nat.reduceEqDiff, Nat.reduceLeDiff, Nat.reduceAdd, Nat.reduceLT, Nat.reduceSub, Nat.reduceMul, forall_const, imp_false, not_true_eq_false, not_false_eq_true, false_imp_iff, Nat.zero_ne_one, Nat.one_ne_zero, Bool.false_eq_true, reduceCtorEq, ne_eq, Nat.add_zero, Nat.reduceBEq, Bool.or_false, Bool.or_true, Bool.false_or, Bool.true_or, or_self, entL, List.flatMap_cons, List.flatMap_nil, List.reduceReplicate, ↓reduceIte, cat_j, lg_0, lg_1, lg_2, lg_3, lg_4, lg_5, lg_6, lg_7, lg_8, lg_9, lg_10, ls_0, ls_1, ls_2, ls_3, ls_4, ls_5, ls_6, ls_7, ls_8, ls_9, ls_10, st_0, st_1, st_2, st_3, st_4, st_5, st_6]
  exact hQ _ yb hE (hW.st ht hC1 hF1) (hF1.wk (by omega) (by omega))
def nS6 (s : Nat) : Nat := if s < 6 then s + 1 else 6
theorem C_keepNoted (hW : CW w y hs sl sv P pd (nI s) (nI t)) (ht : t < 7) (hs6 : s ≤ 6) (hQ : ∀ w', CW w' y hs sl sv P pd (nI (nS6 s)) (nI ((t + 1) % 7)) → FC w w' → Q none w') : T G (d + 1) 0 24 [.ref 16] 145 w Q := by
  refine T_of false hm_24 (by decide +kernel) rfl (Nat.le_of_ble_eq_true rfl) (by decide) (fun q => by cases q) ?_
  intro J hJ
  obtain ⟨⟨a1, a2, a3, a4, a5, a6⟩, ⟨g, b1, b2⟩, ⟨g2, c1, c2⟩, e, f⟩ := id hW
  have hmin : (if (6 : Int32) < nI (s + 1) then 6 else nI (s + 1)) = nI (nS6 s) := by
    unfold nS6
    by_cases h : s < 6
    · rw [if_neg (show ¬ (6 : Int32) < nI (s + 1) from nI_nlt (a := 6) (b := s + 1) (by omega) (by omega)), if_pos h]
    · rw [if_pos (show (6 : Int32) < nI (s + 1) from nI_lt (a := 6) (b := s + 1) (by omega) (by omega)), if_neg h]
      rfl
  have hmod : nI (t + 1) - nI (t + 1) / 7 * 7 = nI ((t + 1) % 7) := r7 (by omega)
  refine go_ok hJ (fun _ => false) 60 ?_
  simp -implicitDefEqProofs only [E_24, s_aload_n, (s_getf rF_2_18), ft_2_2, fn_2_2, s_iconst, s_iadd, s_bipush, s_irem, (s_putf rF_2_18), (s_getf rF_2_26), ft_2_1, fn_2_1, s_invokestatic, rM_2_29, iv12, (s_putf rF_2_26), s_return, i1_0, up_n, ret_b, bI_0, pk_us, pk_un, up_e, up_up, Decidable.not_not, nI_1, Int32.add_zero, Int32.zero_add, vz_0, tn_0, vz_1, tn_1, vz_2, tn_2, vz_3, tn_3, vz_4, tn_4, vz_5, tn_5, vz_6, tn_6, vz_7, tn_7, vz_8, tn_8, vz_9, tn_9, vz_10, tn_10, vz_11, tn_11, vz_12, tn_12, vz_13, tn_13, vz_14, tn_14, vz_15, tn_15, vz_160, tn_160, vz_161, tn_161, vz_162, tn_162, vz_163, tn_163, vz_164, tn_164, vs_0, vs_1, vs_2, vs_3, vs_4, vs_5, run_s, run_e, run_0, true_and, and_true, and_self, or_true, true_or, or_false, false_or, List.length_cons, List.length_nil, Option.toList_some, Option.toList_none, List.cons_append, List.nil_append, isI_t, isJ_t, isA_t, vI_t, nI32_t, isF_t, gF_t, sF_t, isO_t, isP_t, isP0_t, gE_t, sE_t, isR_t, gO_t, sO_t, isS_t, vS_t, isSc_t, nSc_t, pok_i, pok_o, pok_a, pok_0, pok_1, ret_i, ret_0, ret_1, ret_v, clr_i, clr_j, clr_r, clr_n, cat_i, cat_r, kk0, kk1, kk2, eq_self, Nat.reduceEqDiff, Nat.reduceLeDiff, Nat.reduceAdd, Nat.reduceLT, Nat.reduceSub, Nat.reduceMul, forall_const, imp_false, not_true_eq_false, not_false_eq_true, false_imp_iff, Nat.zero_ne_one, Nat.one_ne_zero, Bool.false_eq_true, reduceCtorEq, ne_eq, Nat.add_zero, Nat.reduceBEq, Bool.or_false, Bool.or_true, Bool.false_or, Bool.true_or, or_self, entL, List.flatMap_cons, List.flatMap_nil, List.reduceReplicate, ↓reduceIte, cat_j, lg_0, lg_1, lg_2, lg_3, lg_4, lg_5, lg_6, lg_7, lg_8, lg_9, lg_10, ls_0, ls_1, ls_2, ls_3, ls_4, ls_5, ls_6, ls_7, ls_8, ls_9, ls_10, st_0, st_1, st_2, st_3, st_4, st_5, st_6, a4, hmin, hmod]
  exact ⟨by decide, hQ _ (hW.hh _ _) (FB.up (by omega) (by omega))⟩
theorem C_stepBack (hW : CW w y hs sl sv P pd (nI (s + 1)) (nI t)) (ht : t < 7) (hs6 : s < 6) (hQ : ∀ w' y', yEq y' (hs ((t + 6) % 7)) → CW w' y' hs sl sv P pd (nI s) (nI ((t + 6) % 7)) → FC w w' → Q none w') : T G (d + 3) 0 25 [.ref 16, .ref 1] 145 w Q := by
  refine T_of false hm_25 (by decide +kernel) rfl (Nat.le_of_ble_eq_true rfl) (by decide) (fun q => by cases q) ?_
  intro J hJ
  have hmod : nI t + 6 - (nI t + 6) / 7 * 7 = nI ((t + 6) % 7) := by
    rw [show nI t + 6 = nI (t + 6) from nI_add t 6]
    exact r7 (by omega)
  have hu : (t + 6) % 7 < 7 := Nat.mod_lt _ (by decide)
  generalize (t + 6) % 7 = u at hmod hu hQ
  have hW1 := hW.hh (nI s) (nI u)
  have hF1 : FC w (va_up w 16 (hiO (nI s) (nI u))) := FB.up (by omega) (by omega)
  obtain ⟨⟨a1, a2, a3, a4, a5, a6⟩, ⟨g, b1, b2⟩, ⟨g2, c1, c2⟩, e, f⟩ := id hW
  have hv := vp_in_nI hu (show 7 < 2147483648 by decide)
  have hpr : nI (s + 1) - 1 = nI s := nI_pred s
  obtain ⟨z0, -⟩ := (e u hu).at
  have z1 : ∀ x, va_up w 16 x (18 + 13 * u) = w (18 + 13 * u) := fun x => up_n (by omega)
  refine go_ok hJ (fun _ => false) 60 ?_
  simp -implicitDefEqProofs only [E_25, s_aload_n, (s_getf rF_2_18), ft_2_2, fn_2_2, s_bipush, s_iadd, s_irem, (s_putf rF_2_18), s_dup, (s_getf rF_2_26), ft_2_1, fn_2_1, s_iconst, s_isub, (s_putf rF_2_26), (s_getf rF_2_11), ft_2_0, fn_2_0, s_aaload, s_invokevirtual, rM_2_22, iv5_2, hc_1, s_return, i1_0, up_n, ret_b, bI_0, pk_us, pk_un, up_e, up_up, Decidable.not_not, nI_1, Int32.add_zero, Int32.zero_add, vz_0, tn_0, vz_1, tn_1, vz_2, tn_2, vz_3, tn_3, vz_4, tn_4, vz_5, tn_5, vz_6, tn_6, vz_7, tn_7, vz_8, tn_8, vz_9, tn_9, vz_10, tn_10, vz_11, tn_11, vz_12, tn_12, vz_13, tn_13, vz_14, tn_14, vz_15, tn_15, vz_160, tn_160, vz_161, tn_161, vz_162, tn_162, vz_163, tn_163, vz_164, tn_164, vs_0, vs_1, vs_2, vs_3, vs_4, vs_5, run_s, run_e, run_0, true_and, and_true, and_self, or_true, true_or, or_false, false_or, List.length_cons, List.length_nil, Option.toList_some, Option.toList_none, List.cons_append, List.nil_append, isI_t, isJ_t, isA_t, vI_t, nI32_t, isF_t, gF_t, sF_t, isO_t, isP_t, isP0_t, gE_t, sE_t, isR_t, gO_t, sO_t, isS_t, vS_t, isSc_t, nSc_t, pok_i, pok_o, pok_a, pok_0, pok_1, ret_i, ret_0, ret_1, ret_v, clr_i, clr_j, clr_r, clr_n, cat_i, cat_r, kk0, kk1, kk2, eq_self, Nat.reduceEqDiff, Nat.reduceLeDiff, Nat.reduceAdd, Nat.reduceLT, Nat.reduceSub, Nat.reduceMul, forall_const, imp_false, not_true_eq_false, not_false_eq_true, false_imp_iff, Nat.zero_ne_one, Nat.one_ne_zero, Bool.false_eq_true, reduceCtorEq, ne_eq, Nat.add_zero, Nat.reduceBEq, Bool.or_false, Bool.or_true, Bool.false_or, Bool.true_or, or_self, entL, List.flatMap_cons, List.flatMap_nil, List.reduceReplicate, ↓reduceIte, cat_j, lg_0, lg_1, lg_2, lg_3, lg_4, lg_5, lg_6, lg_7, lg_8, lg_9, lg_10, ls_0, ls_1, ls_2, ls_3, ls_4, ls_5, ls_6, ls_7, ls_8, ls_9, ls_10, st_0, st_1, st_2, st_3, st_4, st_5, st_6, a4, c1, a2.un.1, hv, hmod, hpr, c2 u hu, nI_clamp (n := u) (by omega), z0, z1]
  refine ⟨by decide, ?_⟩
  obtain ⟨-, -, -, e', -⟩ := id hW1
  refine call0 (C_copyFrom (a := 1) (b := 18 + 13 * u) (by omega) (by omega) (hW1.1.2.1) (e' u hu) fun w2 y2 hC2 hE hF2 => ?_)
  refine go_ok hJ (fun _ => false) 60 ?_
  simp -implicitDefEqProofs only [E_25, s_aload_n, (s_getf rF_2_18), ft_2_2, fn_2_2, s_bipush, s_iadd, s_irem, (s_putf rF_2_18), s_dup, (s_getf rF_2_26), ft_2_1, fn_2_1, s_iconst, s_isub, (s_putf rF_2_26), (s_getf rF_2_11), ft_2_0, fn_2_0, s_aaload, s_invokevirtual, rM_2_22, iv5_2, hc_1, s_return, i1_0, up_n, ret_b, bI_0, pk_us, pk_un, up_e, up_up, Decidable.not_not, nI_1, Int32.add_zero, Int32.zero_add, vz_0, tn_0, vz_1, tn_1, vz_2, tn_2, vz_3, tn_3, vz_4, tn_4, vz_5, tn_5, vz_6, tn_6, vz_7, tn_7, vz_8, tn_8, vz_9, tn_9, vz_10, tn_10, vz_11, tn_11, vz_12, tn_12, vz_13, tn_13, vz_14, tn_14, vz_15, tn_15, vz_160, tn_160, vz_161, tn_161, vz_162, tn_162, vz_163, tn_163, vz_164, tn_164, vs_0, vs_1, vs_2, vs_3, vs_4, vs_5, run_s, run_e, run_0, true_and, and_true, and_self, or_true, true_or, or_false, false_or, List.length_cons, List.length_nil, Option.toList_some, Option.toList_none, List.cons_append, List.nil_append, isI_t, isJ_t, isA_t, vI_t, nI32_t, isF_t, gF_t, sF_t, isO_t, isP_t, isP0_t, gE_t, sE_t, isR_t, gO_t, sO_t, isS_t, vS_t, isSc_t, nSc_t, pok_i, pok_o, pok_a, pok_0, pok_1, ret_i, ret_0, ret_1, ret_v, clr_i, clr_j, clr_r, clr_n, cat_i, cat_r, kk0, kk1, kk2, eq_self, Nat.reduceEqDiff, Nat.reduceLeDiff, Nat.reduceAdd, Nat.reduceLT, Nat.reduceSub, Nat.reduceMul, forall_const, imp_false, not_true_eq_false, not_false_eq_true, false_imp_iff, Nat.zero_ne_one, Nat.one_ne_zero, Bool.false_eq_true, reduceCtorEq, ne_eq, Nat.add_zero, Nat.reduceBEq, Bool.or_false, Bool.or_true, Bool.false_or, Bool.true_or, or_self, entL, List.flatMap_cons, List.flatMap_nil, List.reduceReplicate, ↓reduceIte, cat_j, lg_0, lg_1, lg_2, lg_3, lg_4, lg_5, lg_6, lg_7, lg_8, lg_9, lg_10, ls_0, ls_1, ls_2, ls_3, ls_4, ls_5, ls_6, ls_7, ls_8, ls_9, ls_10, st_0, st_1, st_2, st_3, st_4, st_5, st_6]
  exact hQ _ y2 hE (hW1.cr hC2 hF2) (hF1.tr (hF2.wk (by omega) (by omega)))
theorem C_recorded (hW : CW w y hs sl sv P pd (nI s) (nI t)) (ht : t < 7) (hs6 : s ≤ 6) {x : Int32} (hQ0 : x < 0 → Q (some (.int x)) w) (hQ : ¬ x < 0 → ∀ w', CW w' y hs sl sv P pd (nI (nS6 s)) (nI ((t + 1) % 7)) → FC w w' → Q (some (.int x)) w') : T G (d + 2) 0 71 [.ref 0, .int x] 145 w Q := by
  refine T_of false hm_71 (by decide +kernel) rfl (Nat.le_of_ble_eq_true rfl) (by decide) (fun q => by cases q) ?_
  intro J hJ
  obtain ⟨⟨a1, a2, a3, a4, a5, a6⟩, ⟨g, b1, b2⟩, ⟨g2, c1, c2⟩, e, f⟩ := id hW
  refine go_ok hJ (fun _ => false) 60 ?_
  simp -implicitDefEqProofs only [E_71, s_iload_n, s_if_lt, s_aload_n, (s_getf rF_6_27), ft_6_3, fn_6_3, s_invokevirtual, rM_6_63, iv5_1, hc_24, s_ireturn, i1_0, up_n, ret_b, bI_0, pk_us, pk_un, up_e, up_up, Decidable.not_not, nI_1, Int32.add_zero, Int32.zero_add, vz_0, tn_0, vz_1, tn_1, vz_2, tn_2, vz_3, tn_3, vz_4, tn_4, vz_5, tn_5, vz_6, tn_6, vz_7, tn_7, vz_8, tn_8, vz_9, tn_9, vz_10, tn_10, vz_11, tn_11, vz_12, tn_12, vz_13, tn_13, vz_14, tn_14, vz_15, tn_15, vz_160, tn_160, vz_161, tn_161, vz_162, tn_162, vz_163, tn_163, vz_164, tn_164, vs_0, vs_1, vs_2, vs_3, vs_4, vs_5, run_s, run_e, run_0, true_and, and_true, and_self, or_true, true_or, or_false, false_or, List.length_cons, List.length_nil, Option.toList_some, Option.toList_none, List.cons_append, List.nil_append, isI_t, isJ_t, isA_t, vI_t, nI32_t, isF_t, gF_t, sF_t, isO_t, isP_t, isP0_t, gE_t, sE_t, isR_t, gO_t, sO_t, isS_t, vS_t, isSc_t, nSc_t, pok_i, pok_o, pok_a, pok_0, pok_1, ret_i, ret_0, ret_1, ret_v, clr_i, clr_j, clr_r, clr_n, cat_i, cat_r, kk0, kk1, kk2, eq_self, Nat.reduceEqDiff, Nat.reduceLeDiff, Nat.reduceAdd, Nat.reduceLT, Nat.reduceSub, Nat.reduceMul, forall_const, imp_false, not_true_eq_false, not_false_eq_true, false_imp_iff, Nat.zero_ne_one, Nat.one_ne_zero, Bool.false_eq_true, reduceCtorEq, ne_eq, Nat.add_zero, Nat.reduceBEq, Bool.or_false, Bool.or_true, Bool.false_or, Bool.true_or, or_self, entL, List.flatMap_cons, List.flatMap_nil, List.reduceReplicate, ↓reduceIte, cat_j, lg_0, lg_1, lg_2, lg_3, lg_4, lg_5, lg_6, lg_7, lg_8, lg_9, lg_10, ls_0, ls_1, ls_2, ls_3, ls_4, ls_5, ls_6, ls_7, ls_8, ls_9, ls_10, st_0, st_1, st_2, st_3, st_4, st_5, st_6, a1, a4]
  refine ⟨hQ0, fun z => ?_⟩
  refine call0 (C_keepNoted hW ht hs6 fun w1 hW1 hF1 => ?_)
  refine go_ok hJ (fun _ => false) 60 ?_
  simp -implicitDefEqProofs only [E_71, s_iload_n, s_if_lt, s_aload_n, (s_getf rF_6_27), ft_6_3, fn_6_3, s_invokevirtual, rM_6_63, iv5_1, hc_24, s_ireturn, i1_0, up_n, ret_b, bI_0, pk_us, pk_un, up_e, up_up, Decidable.not_not, nI_1, Int32.add_zero, Int32.zero_add, vz_0, tn_0, vz_1, tn_1, vz_2, tn_2, vz_3, tn_3, vz_4, tn_4, vz_5, tn_5, vz_6, tn_6, vz_7, tn_7, vz_8, tn_8, vz_9, tn_9, vz_10, tn_10, vz_11, tn_11, vz_12, tn_12, vz_13, tn_13, vz_14, tn_14, vz_15, tn_15, vz_160, tn_160, vz_161, tn_161, vz_162, tn_162, vz_163, tn_163, vz_164, tn_164, vs_0, vs_1, vs_2, vs_3, vs_4, vs_5, run_s, run_e, run_0, true_and, and_true, and_self, or_true, true_or, or_false, false_or, List.length_cons, List.length_nil, Option.toList_some, Option.toList_none, List.cons_append, List.nil_append, isI_t, isJ_t, isA_t, vI_t, nI32_t, isF_t, gF_t, sF_t, isO_t, isP_t, isP0_t, gE_t, sE_t, isR_t, gO_t, sO_t, isS_t, vS_t, isSc_t, nSc_t, pok_i, pok_o, pok_a, pok_0, pok_1, ret_i, ret_0, ret_1, ret_v, clr_i, clr_j, clr_r, clr_n, cat_i, cat_r, kk0, kk1, kk2, eq_self, Nat.reduceEqDiff, Nat.reduceLeDiff, Nat.reduceAdd, Nat.reduceLT, Nat.reduceSub, Nat.reduceMul, forall_const, imp_false, not_true_eq_false, not_false_eq_true, false_imp_iff, Nat.zero_ne_one, Nat.one_ne_zero, Bool.false_eq_true, reduceCtorEq, ne_eq, Nat.add_zero, Nat.reduceBEq, Bool.or_false, Bool.or_true, Bool.false_or, Bool.true_or, or_self, entL, List.flatMap_cons, List.flatMap_nil, List.reduceReplicate, ↓reduceIte, cat_j, lg_0, lg_1, lg_2, lg_3, lg_4, lg_5, lg_6, lg_7, lg_8, lg_9, lg_10, ls_0, ls_1, ls_2, ls_3, ls_4, ls_5, ls_6, ls_7, ls_8, ls_9, ls_10, st_0, st_1, st_2, st_3, st_4, st_5, st_6]
  exact hQ z _ hW1 hF1
theorem C_hiInit {fs : Nat → Int32} (h1 : w 1001 = ar 4 6 fs) (hw : w 16 = some (.inr (.inr (2, dfl 2)))) (hQ : ∀ w' g, w' 16 = hiO 0 0 → w' 17 = rA 7 g → (∀ j, j < 7 → g j = some (18 + 13 * j)) → (∀ j, j < 7 → CR (18 + 13 * j) w' (yN fs)) → FB 16 109 w w' → Q none w') : T G (d + 3) 92 22 [.ref 16] 17 w Q := by
  refine T_of true hm_22 (by decide +kernel) rfl (Nat.le_of_ble_eq_true rfl) (by decide) (fun _ => rfl) ?_
  intro J hJ
  have hw' : w 16 = some (.inr (.inr (2, [.null, .int 0, .int 0]))) := hw
  have loop : ∀ k i, i + k = 7 → ∀ (w1 : Wd) g, w1 16 = hiO 0 0 → w1 17 = rA 7 g → (∀ j, j < i → g j = some (18 + 13 * j)) → (∀ j, j < i → CR (18 + 13 * j) w1 (yN fs)) → FB 16 (18 + 13 * i) w w1 → J 15 [.ref 16, .int (nI i)] [] (18 + 13 * i) w1 := by
    intro k
    induction k with
    | zero =>
      intro i hi w1 g a1 a2 a3 a4 a5
      obtain rfl : i = 7 := hi
      refine go_ok hJ (fun _ => false) 60 ?_
      simp -implicitDefEqProofs only [E_22, s_aload_n, s_invokespecial, rM_2_3, iv9, s_bipush, s_newq, rC_2_9, (s_putf rF_2_11), ft_2_0, fn_2_0, s_iconst, s_istore_n, s_iload_n, s_icmp_gt, (s_getf rF_2_11), (s_new rC_2_9), s_dup, rM_2_17, iv3_1, hc_0, s_aastore, s_iinc, s_goto, s_return, i1_0, up_n, ret_b, bI_0, pk_us, pk_un, up_e, up_up, Decidable.not_not, nI_1, Int32.add_zero, Int32.zero_add, vz_0, tn_0, vz_1, tn_1, vz_2, tn_2, vz_3, tn_3, vz_4, tn_4, vz_5, tn_5, vz_6, tn_6, vz_7, tn_7, vz_8, tn_8, vz_9, tn_9, vz_10, tn_10, vz_11, tn_11, vz_12, tn_12, vz_13, tn_13, vz_14, tn_14, vz_15, tn_15, vz_160, tn_160, vz_161, tn_161, vz_162, tn_162, vz_163, tn_163, vz_164, tn_164, vs_0, vs_1, vs_2, vs_3, vs_4, vs_5, run_s, run_e, run_0, true_and, and_true, and_self, or_true, true_or, or_false, false_or, List.length_cons, List.length_nil, Option.toList_some, Option.toList_none, List.cons_append, List.nil_append, isI_t, isJ_t, isA_t, vI_t, nI32_t, isF_t, gF_t, sF_t, isO_t, isP_t, isP0_t, gE_t, sE_t, isR_t, gO_t, sO_t, isS_t, vS_t, isSc_t, nSc_t, pok_i, pok_o, pok_a, pok_0, pok_1, ret_i, ret_0, ret_1, ret_v, clr_i, clr_j, clr_r, clr_n, cat_i, cat_r, kk0, kk1, kk2, eq_self, Nat.reduceEqDiff, Nat.reduceLeDiff, Nat.reduceAdd, Nat.reduceLT, Nat.reduceSub, Nat.reduceMul, forall_const, imp_false, not_true_eq_false, not_false_eq_true, false_imp_iff, Nat.zero_ne_one, Nat.one_ne_zero, Bool.false_eq_true, reduceCtorEq, ne_eq, Nat.add_zero, Nat.reduceBEq, Bool.or_false, Bool.or_true, Bool.false_or, Bool.true_or, or_self, entL, List.flatMap_cons, List.flatMap_nil, List.reduceReplicate, ↓reduceIte, cat_j, lg_0, lg_1, lg_2, lg_3, lg_4, lg_5, lg_6, lg_7, lg_8, lg_9, lg_10, ls_0, ls_1, ls_2, ls_3, ls_4, ls_5, ls_6, ls_7, ls_8, ls_9, ls_10, st_0, st_1, st_2, st_3, st_4, st_5, st_6]
      exact ⟨fun _ => hQ _ g a1 a2 a3 a4 a5, fun z => absurd (by decide) z⟩
    | succ k ih =>
      intro i hi w1 g a1 a2 a3 a4 a5
      have hv := vp_in_nI (show i < 7 by omega) (show 7 < 2147483648 by decide)
      have h1001 : w1 1001 = ar 4 6 fs := (a5 1001 (by omega)).trans h1
      have e13 : 18 + 13 * (i + 1) = 18 + 13 * i + 13 := by omega
      have ih' := ih (i + 1) (by omega)
      rw [e13] at ih'
      generalize hb : 18 + 13 * i = b at a5 ih' ⊢
      have m0 : ¬ 16 = b := by omega
      have m1 : ¬ 17 = b := by omega
      refine go_ok hJ (fun p => p == 15) 60 ?_
      simp -implicitDefEqProofs only [E_22, s_aload_n, s_invokespecial, rM_2_3, iv9, s_bipush, s_newq, rC_2_9, (s_putf rF_2_11), ft_2_0, fn_2_0, s_iconst, s_istore_n, s_iload_n, s_icmp_gt, (s_getf rF_2_11), (s_new rC_2_9), s_dup, rM_2_17, iv3_1, hc_0, s_aastore, s_iinc, s_goto, s_return, i1_0, up_n, ret_b, bI_0, pk_us, pk_un, up_e, up_up, Decidable.not_not, nI_1, Int32.add_zero, Int32.zero_add, vz_0, tn_0, vz_1, tn_1, vz_2, tn_2, vz_3, tn_3, vz_4, tn_4, vz_5, tn_5, vz_6, tn_6, vz_7, tn_7, vz_8, tn_8, vz_9, tn_9, vz_10, tn_10, vz_11, tn_11, vz_12, tn_12, vz_13, tn_13, vz_14, tn_14, vz_15, tn_15, vz_160, tn_160, vz_161, tn_161, vz_162, tn_162, vz_163, tn_163, vz_164, tn_164, vs_0, vs_1, vs_2, vs_3, vs_4, vs_5, run_s, run_e, run_0, true_and, and_true, and_self, or_true, true_or, or_false, false_or, List.length_cons, List.length_nil, Option.toList_some, Option.toList_none, List.cons_append, List.nil_append, isI_t, isJ_t, isA_t, vI_t, nI32_t, isF_t, gF_t, sF_t, isO_t, isP_t, isP0_t, gE_t, sE_t, isR_t, gO_t, sO_t, isS_t, vS_t, isSc_t, nSc_t, pok_i, pok_o, pok_a, pok_0, pok_1, ret_i, ret_0, ret_1, ret_v, clr_i, clr_j, clr_r, clr_n, cat_i, cat_r, kk0, kk1, kk2, eq_self, Nat.reduceEqDiff, Nat.reduceLeDiff, Nat.reduceAdd, Nat.reduceLT, Nat.reduceSub, Nat.reduceMul, forall_const, imp_false, not_true_eq_false, not_false_eq_true, false_imp_iff, Nat.zero_ne_one, Nat.one_ne_zero, Bool.false_eq_true, reduceCtorEq, ne_eq, Nat.add_zero, Nat.reduceBEq, Bool.or_false, Bool.or_true, Bool.false_or, Bool.true_or, or_self, entL, List.flatMap_cons, List.flatMap_nil, List.reduceReplicate, ↓reduceIte, cat_j, lg_0, lg_1, lg_2, lg_3, lg_4, lg_5, lg_6, lg_7, lg_8, lg_9, lg_10, ls_0, ls_1, ls_2, ls_3, ls_4, ls_5, ls_6, ls_7, ls_8, ls_9, ls_10, st_0, st_1, st_2, st_3, st_4, st_5, st_6, a1, a2, hv, m0, m1, Nat.add_assoc]
      refine ⟨fun z => absurd (nI_lt (b := 6 + 1) (show i < 6 + 1 by omega) (by omega)) (fun q => nI_nlt (a := 6) (b := i) (by omega) (by omega) z), fun _ => ⟨by omega, 12, by omega, ?_⟩⟩
      refine C_crInit (fs := fs) (by omega) ((up_n (by omega)).trans h1001) up_e fun w2 hC2 hF2 => ?_
      have k16 : w2 16 = hiO 0 0 := ((hF2 16 (by omega)).trans (up_n (by omega))).trans a1
      have k17 : w2 17 = rA 7 g := ((hF2 17 (by omega)).trans (up_n (by omega))).trans a2
      have kb := hC2.at.1
      refine go_ok hJ (fun p => p == 15) 60 ?_
      simp -implicitDefEqProofs only [E_22, s_aload_n, s_invokespecial, rM_2_3, iv9, s_bipush, s_newq, rC_2_9, (s_putf rF_2_11), ft_2_0, fn_2_0, s_iconst, s_istore_n, s_iload_n, s_icmp_gt, (s_getf rF_2_11), (s_new rC_2_9), s_dup, rM_2_17, iv3_1, hc_0, s_aastore, s_iinc, s_goto, s_return, i1_0, up_n, ret_b, bI_0, pk_us, pk_un, up_e, up_up, Decidable.not_not, nI_1, Int32.add_zero, Int32.zero_add, vz_0, tn_0, vz_1, tn_1, vz_2, tn_2, vz_3, tn_3, vz_4, tn_4, vz_5, tn_5, vz_6, tn_6, vz_7, tn_7, vz_8, tn_8, vz_9, tn_9, vz_10, tn_10, vz_11, tn_11, vz_12, tn_12, vz_13, tn_13, vz_14, tn_14, vz_15, tn_15, vz_160, tn_160, vz_161, tn_161, vz_162, tn_162, vz_163, tn_163, vz_164, tn_164, vs_0, vs_1, vs_2, vs_3, vs_4, vs_5, run_s, run_e, run_0, true_and, and_true, and_self, or_true, true_or, or_false, false_or, List.length_cons, List.length_nil, Option.toList_some, Option.toList_none, List.cons_append, List.nil_append, isI_t, isJ_t, isA_t, vI_t, nI32_t, isF_t, gF_t, sF_t, isO_t, isP_t, isP0_t, gE_t, sE_t, isR_t, gO_t, sO_t, isS_t, vS_t, isSc_t, nSc_t, pok_i, pok_o, pok_a, pok_0, pok_1, ret_i, ret_0, ret_1, ret_v, clr_i, clr_j, clr_r, clr_n, cat_i, cat_r, kk0, kk1, kk2, eq_self, Nat.reduceEqDiff, Nat.reduceLeDiff, Nat.reduceAdd, Nat.reduceLT, Nat.reduceSub, Nat.reduceMul, forall_const, imp_false, not_true_eq_false, not_false_eq_true, false_imp_iff, Nat.zero_ne_one, Nat.one_ne_zero, Bool.false_eq_true, reduceCtorEq, ne_eq, Nat.add_zero, Nat.reduceBEq, Bool.or_false, Bool.or_true, Bool.false_or, Bool.true_or, or_self, entL, List.flatMap_cons, List.flatMap_nil, List.reduceReplicate, ↓reduceIte, cat_j, lg_0, lg_1, lg_2, lg_3, lg_4, lg_5, lg_6, lg_7, lg_8, lg_9, lg_10, ls_0, ls_1, ls_2, ls_3, ls_4, ls_5, ls_6, ls_7, ls_8, ls_9, ls_10, st_0, st_1, st_2, st_3, st_4, st_5, st_6, k16, k17, kb, hv, nI_clamp (n := i) (by omega), Nat.add_assoc]
      refine ih' _ (va_up g i (some b)) ((up_n (by decide)).trans k16) up_e ?_ ?_ ?_
      · intro j hj
        unfold va_up
        by_cases q : j = i
        · subst q
          rw [if_pos rfl, hb]
        · rw [if_neg q]
          exact a3 j (by omega)
      · intro j hj
        by_cases q : j = i
        · subst q
          rw [hb]
          exact hC2.fr fun x hx => up_n (by omega)
        · refine (a4 j (by omega)).fr fun x hx => ?_
          rw [up_n (by omega), hF2 _ (by omega), up_n (by omega)]
      · intro x hx
        rw [up_n (by omega), hF2 _ (by omega), up_n (by omega)]
        exact a5 x (by omega)
  refine go_ok hJ (fun p => p == 15) 60 ?_
  simp -implicitDefEqProofs only [E_22, s_aload_n, s_invokespecial, rM_2_3, iv9, s_bipush, s_newq, rC_2_9, (s_putf rF_2_11), ft_2_0, fn_2_0, s_iconst, s_istore_n, s_iload_n, s_icmp_gt, (s_getf rF_2_11), (s_new rC_2_9), s_dup, rM_2_17, iv3_1, hc_0, s_aastore, s_iinc, s_goto, s_return, i1_0, up_n, ret_b, bI_0, pk_us, pk_un, up_e, up_up, Decidable.not_not, nI_1, Int32.add_zero, Int32.zero_add, vz_0, tn_0, vz_1, tn_1, vz_2, tn_2, vz_3, tn_3, vz_4, tn_4, vz_5, tn_5, vz_6, tn_6, vz_7, tn_7, vz_8, tn_8, vz_9, tn_9, vz_10, tn_10, vz_11, tn_11, vz_12, tn_12, vz_13, tn_13, vz_14, tn_14, vz_15, tn_15, vz_160, tn_160, vz_161, tn_161, vz_162, tn_162, vz_163, tn_163, vz_164, tn_164, vs_0, vs_1, vs_2, vs_3, vs_4, vs_5, run_s, run_e, run_0, true_and, and_true, and_self, or_true, true_or, or_false, false_or, List.length_cons, List.length_nil, Option.toList_some, Option.toList_none, List.cons_append, List.nil_append, isI_t, isJ_t, isA_t, vI_t, nI32_t, isF_t, gF_t, sF_t, isO_t, isP_t, isP0_t, gE_t, sE_t, isR_t, gO_t, sO_t, isS_t, vS_t, isSc_t, nSc_t, pok_i, pok_o, pok_a, pok_0, pok_1, ret_i, ret_0, ret_1, ret_v, clr_i, clr_j, clr_r, clr_n, cat_i, cat_r, kk0, kk1, kk2, eq_self, Nat.reduceEqDiff, Nat.reduceLeDiff, Nat.reduceAdd, Nat.reduceLT, Nat.reduceSub, Nat.reduceMul, forall_const, imp_false, not_true_eq_false, not_false_eq_true, false_imp_iff, Nat.zero_ne_one, Nat.one_ne_zero, Bool.false_eq_true, reduceCtorEq, ne_eq, Nat.add_zero, Nat.reduceBEq, Bool.or_false, Bool.or_true, Bool.false_or, Bool.true_or, or_self, entL, List.flatMap_cons, List.flatMap_nil, List.reduceReplicate, ↓reduceIte, cat_j, lg_0, lg_1, lg_2, lg_3, lg_4, lg_5, lg_6, lg_7, lg_8, lg_9, lg_10, ls_0, ls_1, ls_2, ls_3, ls_4, ls_5, ls_6, ls_7, ls_8, ls_9, ls_10, st_0, st_1, st_2, st_3, st_4, st_5, st_6, hw', nl_7]
  refine loop 7 0 (by omega) _ (fun _ => none) up_e ((up_n (by decide)).trans up_e) (fun j hj => absurd hj (Nat.not_lt_zero _)) (fun j hj => absurd hj (Nat.not_lt_zero _)) ?_
  intro x hx
  rw [up_n (by omega), up_n (by omega)]
def P0 : Nat → Int32 := fun _ => 0
theorem C_paInit (hw : w 109 = some (.inr (.inr (3, dfl 3)))) (hQ : ∀ w', w' 109 = paO 0 0 0 0 0 0 0 → w' 110 = ar 2 80 (fun _ => 0) → FB 109 111 w w' → Q none w') : T G (d + 1) 1 26 [.ref 109] 110 w Q := by
  refine T_of true hm_26 (by decide +kernel) rfl (Nat.le_of_ble_eq_true rfl) (by decide) (fun _ => rfl) ?_
  intro J hJ
  have hw' : w 109 = some (.inr (.inr (3, [.null, .int 0, .int 0, .int 0, .int 0, .int 0, .int 0, .int 0]))) := hw
  refine go_ok hJ (fun _ => false) 60 ?_
  simp -implicitDefEqProofs only [E_26, s_aload_n, s_invokespecial, rM_3_3, iv9, s_bipush, s_newa, (s_putf rF_3_9), ft_3_0, fn_3_0, s_return, i1_0, up_n, ret_b, bI_0, pk_us, pk_un, up_e, up_up, Decidable.not_not, nI_1, Int32.add_zero, Int32.zero_add, vz_0, tn_0, vz_1, tn_1, vz_2, tn_2, vz_3, tn_3, vz_4, tn_4, vz_5, tn_5, vz_6, tn_6, vz_7, tn_7, vz_8, tn_8, vz_9, tn_9, vz_10, tn_10, vz_11, tn_11, vz_12, tn_12, vz_13, tn_13, vz_14, tn_14, vz_15, tn_15, vz_160, tn_160, vz_161, tn_161, vz_162, tn_162, vz_163, tn_163, vz_164, tn_164, vs_0, vs_1, vs_2, vs_3, vs_4, vs_5, run_s, run_e, run_0, true_and, and_true, and_self, or_true, true_or, or_false, false_or, List.length_cons, List.length_nil, Option.toList_some, Option.toList_none, List.cons_append, List.nil_append, isI_t, isJ_t, isA_t, vI_t, nI32_t, isF_t, gF_t, sF_t, isO_t, isP_t, isP0_t, gE_t, sE_t, isR_t, gO_t, sO_t, isS_t, vS_t, isSc_t, nSc_t, pok_i, pok_o, pok_a, pok_0, pok_1, ret_i, ret_0, ret_1, ret_v, clr_i, clr_j, clr_r, clr_n, cat_i, cat_r, kk0, kk1, kk2, eq_self, Nat.reduceEqDiff, Nat.reduceLeDiff, Nat.reduceAdd, Nat.reduceLT, Nat.reduceSub, Nat.reduceMul, forall_const, imp_false, not_true_eq_false, not_false_eq_true, false_imp_iff, Nat.zero_ne_one, Nat.one_ne_zero, Bool.false_eq_true, reduceCtorEq, ne_eq, Nat.add_zero, Nat.reduceBEq, Bool.or_false, Bool.or_true, Bool.false_or, Bool.true_or, or_self, entL, List.flatMap_cons, List.flatMap_nil, List.reduceReplicate, ↓reduceIte, cat_j, lg_0, lg_1, lg_2, lg_3, lg_4, lg_5, lg_6, lg_7, lg_8, lg_9, lg_10, ls_0, ls_1, ls_2, ls_3, ls_4, ls_5, ls_6, ls_7, ls_8, ls_9, ls_10, st_0, st_1, st_2, st_3, st_4, st_5, st_6, hw', ak_c, tn_80, nl_80]
  exact hQ _ up_e ((up_n (by decide)).trans up_e) ((FB.up (by omega) (by omega)).tr (FB.up (by omega) (by omega)))
theorem C_init {fs ls ms : Nat → Int32} (hS : CS w fs ls ms) (hw : w 0 = some (.inr (.inr (6, dfl 6)))) (hQ : ∀ w', CW w' (yN fs) (fun _ => yN fs) (fun _ => yN fs) (fun _ => 0) P0 (fun _ => 0) 0 0 → FC w w' → Q none w') : T G (d + 4) 136 65 [.ref 0] 1 w Q := by
  refine T_of true hm_65 (by decide +kernel) rfl (Nat.le_of_ble_eq_true rfl) (by decide) (fun _ => rfl) ?_
  intro J hJ
  have hw' : w 0 = some (.inr (.inr (6, [.null, .null, .null, .null, .null]))) := hw
  refine go_ok hJ (fun p => p == 54) 60 ?_
  simp -implicitDefEqProofs only [E_65, s_aload_n, s_invokespecial, rM_6_1, iv9, (s_new rC_6_7), s_dup, rM_6_9, iv3_1, hc_0, (s_putf rF_6_10), ft_6_0, fn_6_0, s_iconst, s_newq, rC_6_7, (s_putf rF_6_16), ft_6_1, fn_6_1, s_newa, (s_putf rF_6_20), ft_6_2, fn_6_2, (s_new rC_6_24), rM_6_26, hc_22, (s_putf rF_6_27), ft_6_3, fn_6_3, (s_new rC_6_31), rM_6_33, hc_26, (s_putf rF_6_34), ft_6_4, fn_6_4, s_istore_n, s_iload_n, s_icmp_ge, (s_getf rF_6_16), s_aastore, s_iinc, s_goto, s_return, i1_0, up_n, ret_b, bI_0, pk_us, pk_un, up_e, up_up, Decidable.not_not, nI_1, Int32.add_zero, Int32.zero_add, vz_0, tn_0, vz_1, tn_1, vz_2, tn_2, vz_3, tn_3, vz_4, tn_4, vz_5, tn_5, vz_6, tn_6, vz_7, tn_7, vz_8, tn_8, vz_9, tn_9, vz_10, tn_10, vz_11, tn_11, vz_12, tn_12, vz_13, tn_13, vz_14, tn_14, vz_15, tn_15, vz_160, tn_160, vz_161, tn_161, vz_162, tn_162, vz_163, tn_163, vz_164, tn_164, vs_0, vs_1, vs_2, vs_3, vs_4, vs_5, run_s, run_e, run_0, true_and, and_true, and_self, or_true, true_or, or_false, false_or, List.length_cons, List.length_nil, Option.toList_some, Option.toList_none, List.cons_append, List.nil_append, isI_t, isJ_t, isA_t, vI_t, nI32_t, isF_t, gF_t, sF_t, isO_t, isP_t, isP0_t, gE_t, sE_t, isR_t, gO_t, sO_t, isS_t, vS_t, isSc_t, nSc_t, pok_i, pok_o, pok_a, pok_0, pok_1, ret_i, ret_0, ret_1, ret_v, clr_i, clr_j, clr_r, clr_n, cat_i, cat_r, kk0, kk1, kk2, eq_self, Nat.reduceEqDiff, Nat.reduceLeDiff, Nat.reduceAdd, Nat.reduceLT, Nat.reduceSub, Nat.reduceMul, forall_const, imp_false, not_true_eq_false, not_false_eq_true, false_imp_iff, Nat.zero_ne_one, Nat.one_ne_zero, Bool.false_eq_true, reduceCtorEq, ne_eq, Nat.add_zero, Nat.reduceBEq, Bool.or_false, Bool.or_true, Bool.false_or, Bool.true_or, or_self, entL, List.flatMap_cons, List.flatMap_nil, List.reduceReplicate, ↓reduceIte, cat_j, lg_0, lg_1, lg_2, lg_3, lg_4, lg_5, lg_6, lg_7, lg_8, lg_9, lg_10, ls_0, ls_1, ls_2, ls_3, ls_4, ls_5, ls_6, ls_7, ls_8, ls_9, ls_10, st_0, st_1, st_2, st_3, st_4, st_5, st_6, hw']
  refine ⟨12, by decide, ?_⟩
  refine C_crInit (fs := fs) (by omega) ((up_n (by omega)).trans hS.1) up_e fun w1 hC1 hF1 => ?_
  have k0 : w1 0 = some (.inr (.inr (6, [.null, .null, .null, .null, .null]))) := ((hF1 0 (by omega)).trans (up_n (by omega))).trans hw'
  refine go_ok hJ (fun p => p == 54) 60 ?_
  simp -implicitDefEqProofs only [E_65, s_aload_n, s_invokespecial, rM_6_1, iv9, (s_new rC_6_7), s_dup, rM_6_9, iv3_1, hc_0, (s_putf rF_6_10), ft_6_0, fn_6_0, s_iconst, s_newq, rC_6_7, (s_putf rF_6_16), ft_6_1, fn_6_1, s_newa, (s_putf rF_6_20), ft_6_2, fn_6_2, (s_new rC_6_24), rM_6_26, hc_22, (s_putf rF_6_27), ft_6_3, fn_6_3, (s_new rC_6_31), rM_6_33, hc_26, (s_putf rF_6_34), ft_6_4, fn_6_4, s_istore_n, s_iload_n, s_icmp_ge, (s_getf rF_6_16), s_aastore, s_iinc, s_goto, s_return, i1_0, up_n, ret_b, bI_0, pk_us, pk_un, up_e, up_up, Decidable.not_not, nI_1, Int32.add_zero, Int32.zero_add, vz_0, tn_0, vz_1, tn_1, vz_2, tn_2, vz_3, tn_3, vz_4, tn_4, vz_5, tn_5, vz_6, tn_6, vz_7, tn_7, vz_8, tn_8, vz_9, tn_9, vz_10, tn_10, vz_11, tn_11, vz_12, tn_12, vz_13, tn_13, vz_14, tn_14, vz_15, tn_15, vz_160, tn_160, vz_161, tn_161, vz_162, tn_162, vz_163, tn_163, vz_164, tn_164, vs_0, vs_1, vs_2, vs_3, vs_4, vs_5, run_s, run_e, run_0, true_and, and_true, and_self, or_true, true_or, or_false, false_or, List.length_cons, List.length_nil, Option.toList_some, Option.toList_none, List.cons_append, List.nil_append, isI_t, isJ_t, isA_t, vI_t, nI32_t, isF_t, gF_t, sF_t, isO_t, isP_t, isP0_t, gE_t, sE_t, isR_t, gO_t, sO_t, isS_t, vS_t, isSc_t, nSc_t, pok_i, pok_o, pok_a, pok_0, pok_1, ret_i, ret_0, ret_1, ret_v, clr_i, clr_j, clr_r, clr_n, cat_i, cat_r, kk0, kk1, kk2, eq_self, Nat.reduceEqDiff, Nat.reduceLeDiff, Nat.reduceAdd, Nat.reduceLT, Nat.reduceSub, Nat.reduceMul, forall_const, imp_false, not_true_eq_false, not_false_eq_true, false_imp_iff, Nat.zero_ne_one, Nat.one_ne_zero, Bool.false_eq_true, reduceCtorEq, ne_eq, Nat.add_zero, Nat.reduceBEq, Bool.or_false, Bool.or_true, Bool.false_or, Bool.true_or, or_self, entL, List.flatMap_cons, List.flatMap_nil, List.reduceReplicate, ↓reduceIte, cat_j, lg_0, lg_1, lg_2, lg_3, lg_4, lg_5, lg_6, lg_7, lg_8, lg_9, lg_10, ls_0, ls_1, ls_2, ls_3, ls_4, ls_5, ls_6, ls_7, ls_8, ls_9, ls_10, st_0, st_1, st_2, st_3, st_4, st_5, st_6, k0, ak_z, nl_2]
  refine ⟨92, by decide, ?_⟩
  refine C_hiInit (fs := fs) ?_ up_e fun w2 g2 p1 p2 p3 p4 p5 => ?_
  · rw [up_n (by omega), up_n (by omega), up_n (by omega), up_n (by omega), up_n (by omega), up_n (by omega), hF1 _ (by omega), up_n (by omega)]
    exact hS.1
  have q0 : w2 0 = some (.inr (.inr (6, [.ref 1, .ref 14, .ref 15, .null, .null]))) := by
    rw [p5 0 (by omega)]
    simp only [up_e, up_n, Nat.reduceEqDiff, not_false_eq_true]
  have q14 : w2 14 = rA 2 (fun _ => none) := by
    rw [p5 14 (by omega)]
    simp only [up_e, up_n, Nat.reduceEqDiff, not_false_eq_true]
  have q15 : w2 15 = ar 1 2 (fun _ => 0) := by
    rw [p5 15 (by omega)]
    simp only [up_e, up_n, Nat.reduceEqDiff, not_false_eq_true]
  have qC : CR 1 w2 (yN fs) := hC1.fr fun j hj => by
    rw [p5 _ (by omega), up_n (by omega), up_n (by omega), up_n (by omega), up_n (by omega), up_n (by omega), up_n (by omega)]
  have qF : FB 0 109 w w2 := by
    intro x hx
    rw [p5 _ (by omega), up_n (by omega), up_n (by omega), up_n (by omega), up_n (by omega), up_n (by omega), up_n (by omega), hF1 _ (by omega), up_n (by omega)]
  clear p5 hF1 hC1
  refine go_ok hJ (fun p => p == 54) 60 ?_
  simp -implicitDefEqProofs only [E_65, s_aload_n, s_invokespecial, rM_6_1, iv9, (s_new rC_6_7), s_dup, rM_6_9, iv3_1, hc_0, (s_putf rF_6_10), ft_6_0, fn_6_0, s_iconst, s_newq, rC_6_7, (s_putf rF_6_16), ft_6_1, fn_6_1, s_newa, (s_putf rF_6_20), ft_6_2, fn_6_2, (s_new rC_6_24), rM_6_26, hc_22, (s_putf rF_6_27), ft_6_3, fn_6_3, (s_new rC_6_31), rM_6_33, hc_26, (s_putf rF_6_34), ft_6_4, fn_6_4, s_istore_n, s_iload_n, s_icmp_ge, (s_getf rF_6_16), s_aastore, s_iinc, s_goto, s_return, i1_0, up_n, ret_b, bI_0, pk_us, pk_un, up_e, up_up, Decidable.not_not, nI_1, Int32.add_zero, Int32.zero_add, vz_0, tn_0, vz_1, tn_1, vz_2, tn_2, vz_3, tn_3, vz_4, tn_4, vz_5, tn_5, vz_6, tn_6, vz_7, tn_7, vz_8, tn_8, vz_9, tn_9, vz_10, tn_10, vz_11, tn_11, vz_12, tn_12, vz_13, tn_13, vz_14, tn_14, vz_15, tn_15, vz_160, tn_160, vz_161, tn_161, vz_162, tn_162, vz_163, tn_163, vz_164, tn_164, vs_0, vs_1, vs_2, vs_3, vs_4, vs_5, run_s, run_e, run_0, true_and, and_true, and_self, or_true, true_or, or_false, false_or, List.length_cons, List.length_nil, Option.toList_some, Option.toList_none, List.cons_append, List.nil_append, isI_t, isJ_t, isA_t, vI_t, nI32_t, isF_t, gF_t, sF_t, isO_t, isP_t, isP0_t, gE_t, sE_t, isR_t, gO_t, sO_t, isS_t, vS_t, isSc_t, nSc_t, pok_i, pok_o, pok_a, pok_0, pok_1, ret_i, ret_0, ret_1, ret_v, clr_i, clr_j, clr_r, clr_n, cat_i, cat_r, kk0, kk1, kk2, eq_self, Nat.reduceEqDiff, Nat.reduceLeDiff, Nat.reduceAdd, Nat.reduceLT, Nat.reduceSub, Nat.reduceMul, forall_const, imp_false, not_true_eq_false, not_false_eq_true, false_imp_iff, Nat.zero_ne_one, Nat.one_ne_zero, Bool.false_eq_true, reduceCtorEq, ne_eq, Nat.add_zero, Nat.reduceBEq, Bool.or_false, Bool.or_true, Bool.false_or, Bool.true_or, or_self, entL, List.flatMap_cons, List.flatMap_nil, List.reduceReplicate, ↓reduceIte, cat_j, lg_0, lg_1, lg_2, lg_3, lg_4, lg_5, lg_6, lg_7, lg_8, lg_9, lg_10, ls_0, ls_1, ls_2, ls_3, ls_4, ls_5, ls_6, ls_7, ls_8, ls_9, ls_10, st_0, st_1, st_2, st_3, st_4, st_5, st_6, q0]
  refine ⟨1, by decide, ?_⟩
  refine C_paInit up_e fun w3 s1 s2 s3 => ?_
  have r0 : w3 0 = some (.inr (.inr (6, [.ref 1, .ref 14, .ref 15, .ref 16, .null]))) := by
    rw [s3 0 (by omega)]
    simp only [up_e, up_n, Nat.reduceEqDiff, not_false_eq_true]
  have rF : ∀ x, 1 ≤ x → x < 109 → w3 x = w2 x := by
    intro x h1 h2
    rw [s3 _ (by omega), up_n (by omega), up_n (by omega)]
  have rF2 : ∀ x, 111 ≤ x → w3 x = w x := by
    intro x h1
    rw [s3 _ (by omega), up_n (by omega), up_n (by omega)]
    exact qF x (by omega)
  clear s3
  refine go_ok hJ (fun p => p == 54) 60 ?_
  simp -implicitDefEqProofs only [E_65, s_aload_n, s_invokespecial, rM_6_1, iv9, (s_new rC_6_7), s_dup, rM_6_9, iv3_1, hc_0, (s_putf rF_6_10), ft_6_0, fn_6_0, s_iconst, s_newq, rC_6_7, (s_putf rF_6_16), ft_6_1, fn_6_1, s_newa, (s_putf rF_6_20), ft_6_2, fn_6_2, (s_new rC_6_24), rM_6_26, hc_22, (s_putf rF_6_27), ft_6_3, fn_6_3, (s_new rC_6_31), rM_6_33, hc_26, (s_putf rF_6_34), ft_6_4, fn_6_4, s_istore_n, s_iload_n, s_icmp_ge, (s_getf rF_6_16), s_aastore, s_iinc, s_goto, s_return, i1_0, up_n, ret_b, bI_0, pk_us, pk_un, up_e, up_up, Decidable.not_not, nI_1, Int32.add_zero, Int32.zero_add, vz_0, tn_0, vz_1, tn_1, vz_2, tn_2, vz_3, tn_3, vz_4, tn_4, vz_5, tn_5, vz_6, tn_6, vz_7, tn_7, vz_8, tn_8, vz_9, tn_9, vz_10, tn_10, vz_11, tn_11, vz_12, tn_12, vz_13, tn_13, vz_14, tn_14, vz_15, tn_15, vz_160, tn_160, vz_161, tn_161, vz_162, tn_162, vz_163, tn_163, vz_164, tn_164, vs_0, vs_1, vs_2, vs_3, vs_4, vs_5, run_s, run_e, run_0, true_and, and_true, and_self, or_true, true_or, or_false, false_or, List.length_cons, List.length_nil, Option.toList_some, Option.toList_none, List.cons_append, List.nil_append, isI_t, isJ_t, isA_t, vI_t, nI32_t, isF_t, gF_t, sF_t, isO_t, isP_t, isP0_t, gE_t, sE_t, isR_t, gO_t, sO_t, isS_t, vS_t, isSc_t, nSc_t, pok_i, pok_o, pok_a, pok_0, pok_1, ret_i, ret_0, ret_1, ret_v, clr_i, clr_j, clr_r, clr_n, cat_i, cat_r, kk0, kk1, kk2, eq_self, Nat.reduceEqDiff, Nat.reduceLeDiff, Nat.reduceAdd, Nat.reduceLT, Nat.reduceSub, Nat.reduceMul, forall_const, imp_false, not_true_eq_false, not_false_eq_true, false_imp_iff, Nat.zero_ne_one, Nat.one_ne_zero, Bool.false_eq_true, reduceCtorEq, ne_eq, Nat.add_zero, Nat.reduceBEq, Bool.or_false, Bool.or_true, Bool.false_or, Bool.true_or, or_self, entL, List.flatMap_cons, List.flatMap_nil, List.reduceReplicate, ↓reduceIte, cat_j, lg_0, lg_1, lg_2, lg_3, lg_4, lg_5, lg_6, lg_7, lg_8, lg_9, lg_10, ls_0, ls_1, ls_2, ls_3, ls_4, ls_5, ls_6, ls_7, ls_8, ls_9, ls_10, st_0, st_1, st_2, st_3, st_4, st_5, st_6, r0]
  have hW : ∀ (w4 : Wd) g, (∀ x, 1 ≤ x → x < 111 → x ≠ 14 → w4 x = w3 x) → w4 0 = ccO → w4 14 = rA 2 g → (∀ j, j < 2 → g j = some (111 + 13 * j)) → (∀ j, j < 2 → CR (111 + 13 * j) w4 (yN fs)) → CW w4 (yN fs) (fun _ => yN fs) (fun _ => yN fs) (fun _ => 0) P0 (fun _ => 0) 0 0 := by
    intro w4 g h1 h2 h3 h4 h5
    refine ⟨⟨h2, qC.fr fun j hj => ?_, ?_, ?_, ?_, ?_⟩, ⟨g, h3, h4⟩, ⟨g2, ?_, p3⟩, fun j hj => (p4 j hj).fr fun i hi => ?_, h5⟩
    · rw [h1 _ (by omega) (by omega) (by omega), rF _ (by omega) (by omega)]
    · rw [h1 _ (by omega) (by omega) (by omega), rF _ (by omega) (by omega)]
      exact q15
    · rw [h1 _ (by omega) (by omega) (by omega), rF _ (by omega) (by omega)]
      exact p1
    · rw [h1 _ (by omega) (by omega) (by omega)]
      exact s1
    · rw [h1 _ (by omega) (by omega) (by omega)]
      exact s2
    · rw [h1 _ (by omega) (by omega) (by omega), rF _ (by omega) (by omega)]
      exact p2
    · rw [h1 _ (by omega) (by omega) (by omega), rF _ (by omega) (by omega)]
  have hcc : ccO = some (.inr (.inr (6, [.ref 1, .ref 14, .ref 15, .ref 16, .ref 109]))) := rfl
  generalize hw4 : va_up w3 0 (some (.inr (.inr (6, [.ref 1, .ref 14, .ref 15, .ref 16, .ref 109])))) = w4
  have v0 : w4 0 = ccO := by rw [← hw4]; exact up_e
  have v1 : ∀ x, 1 ≤ x → w4 x = w3 x := fun x hx => by rw [← hw4]; exact up_n (by omega)
  have v14 : w4 14 = rA 2 (fun _ => none) := (v1 14 (by decide)).trans ((rF 14 (by decide) (by decide)).trans q14)
  have v1001 : w4 1001 = ar 4 6 fs := ((v1 1001 (by decide)).trans (rF2 1001 (by decide))).trans hS.1
  clear hw4
  have hv0 : vp_in 0 2 := vp_in_nI (n := 0) (by decide) (by decide)
  have hv1 : vp_in 1 2 := vp_in_nI (n := 1) (by decide) (by decide)
  refine go_ok hJ (fun p => p == 54) 60 ?_
  simp -implicitDefEqProofs only [E_65, s_aload_n, s_invokespecial, rM_6_1, iv9, (s_new rC_6_7), s_dup, rM_6_9, iv3_1, hc_0, (s_putf rF_6_10), ft_6_0, fn_6_0, s_iconst, s_newq, rC_6_7, (s_putf rF_6_16), ft_6_1, fn_6_1, s_newa, (s_putf rF_6_20), ft_6_2, fn_6_2, (s_new rC_6_24), rM_6_26, hc_22, (s_putf rF_6_27), ft_6_3, fn_6_3, (s_new rC_6_31), rM_6_33, hc_26, (s_putf rF_6_34), ft_6_4, fn_6_4, s_istore_n, s_iload_n, s_icmp_ge, (s_getf rF_6_16), s_aastore, s_iinc, s_goto, s_return, i1_0, up_n, ret_b, bI_0, pk_us, pk_un, up_e, up_up, Decidable.not_not, nI_1, Int32.add_zero, Int32.zero_add, vz_0, tn_0, vz_1, tn_1, vz_2, tn_2, vz_3, tn_3, vz_4, tn_4, vz_5, tn_5, vz_6, tn_6, vz_7, tn_7, vz_8, tn_8, vz_9, tn_9, vz_10, tn_10, vz_11, tn_11, vz_12, tn_12, vz_13, tn_13, vz_14, tn_14, vz_15, tn_15, vz_160, tn_160, vz_161, tn_161, vz_162, tn_162, vz_163, tn_163, vz_164, tn_164, vs_0, vs_1, vs_2, vs_3, vs_4, vs_5, run_s, run_e, run_0, true_and, and_true, and_self, or_true, true_or, or_false, false_or, List.length_cons, List.length_nil, Option.toList_some, Option.toList_none, List.cons_append, List.nil_append, isI_t, isJ_t, isA_t, vI_t, nI32_t, isF_t, gF_t, sF_t, isO_t, isP_t, isP0_t, gE_t, sE_t, isR_t, gO_t, sO_t, isS_t, vS_t, isSc_t, nSc_t, pok_i, pok_o, pok_a, pok_0, pok_1, ret_i, ret_0, ret_1, ret_v, clr_i, clr_j, clr_r, clr_n, cat_i, cat_r, kk0, kk1, kk2, eq_self, Nat.reduceEqDiff, Nat.reduceLeDiff, Nat.reduceAdd, Nat.reduceLT, Nat.reduceSub, Nat.reduceMul, forall_const, imp_false, not_true_eq_false, not_false_eq_true, false_imp_iff, Nat.zero_ne_one, Nat.one_ne_zero, Bool.false_eq_true, reduceCtorEq, ne_eq, Nat.add_zero, Nat.reduceBEq, Bool.or_false, Bool.or_true, Bool.false_or, Bool.true_or, or_self, entL, List.flatMap_cons, List.flatMap_nil, List.reduceReplicate, ↓reduceIte, cat_j, lg_0, lg_1, lg_2, lg_3, lg_4, lg_5, lg_6, lg_7, lg_8, lg_9, lg_10, ls_0, ls_1, ls_2, ls_3, ls_4, ls_5, ls_6, ls_7, ls_8, ls_9, ls_10, st_0, st_1, st_2, st_3, st_4, st_5, st_6, v0, v14, hv0, show ¬ (2 : Int32) ≤ 0 by decide]
  refine ⟨12, by decide, ?_⟩
  refine C_crInit (fs := fs) (by omega) ((up_n (by omega)).trans v1001) up_e fun w5 hC5 hF5 => ?_
  have t0 : w5 0 = ccO := ((hF5 0 (by omega)).trans (up_n (by omega))).trans v0
  have t14 : w5 14 = rA 2 (fun _ => none) := ((hF5 14 (by omega)).trans (up_n (by omega))).trans v14
  have tF : ∀ x, 1 ≤ x → x < 111 ∨ 124 ≤ x → w5 x = w3 x := fun x h1 h2 => by
    rw [hF5 _ (by omega), up_n (by omega)]
    exact v1 x h1
  have t111 := hC5.at.1
  clear hF5
  refine go_ok hJ (fun p => p == 54) 60 ?_
  simp -implicitDefEqProofs only [E_65, s_aload_n, s_invokespecial, rM_6_1, iv9, (s_new rC_6_7), s_dup, rM_6_9, iv3_1, hc_0, (s_putf rF_6_10), ft_6_0, fn_6_0, s_iconst, s_newq, rC_6_7, (s_putf rF_6_16), ft_6_1, fn_6_1, s_newa, (s_putf rF_6_20), ft_6_2, fn_6_2, (s_new rC_6_24), rM_6_26, hc_22, (s_putf rF_6_27), ft_6_3, fn_6_3, (s_new rC_6_31), rM_6_33, hc_26, (s_putf rF_6_34), ft_6_4, fn_6_4, s_istore_n, s_iload_n, s_icmp_ge, (s_getf rF_6_16), s_aastore, s_iinc, s_goto, s_return, i1_0, up_n, ret_b, bI_0, pk_us, pk_un, up_e, up_up, Decidable.not_not, nI_1, Int32.add_zero, Int32.zero_add, vz_0, tn_0, vz_1, tn_1, vz_2, tn_2, vz_3, tn_3, vz_4, tn_4, vz_5, tn_5, vz_6, tn_6, vz_7, tn_7, vz_8, tn_8, vz_9, tn_9, vz_10, tn_10, vz_11, tn_11, vz_12, tn_12, vz_13, tn_13, vz_14, tn_14, vz_15, tn_15, vz_160, tn_160, vz_161, tn_161, vz_162, tn_162, vz_163, tn_163, vz_164, tn_164, vs_0, vs_1, vs_2, vs_3, vs_4, vs_5, run_s, run_e, run_0, true_and, and_true, and_self, or_true, true_or, or_false, false_or, List.length_cons, List.length_nil, Option.toList_some, Option.toList_none, List.cons_append, List.nil_append, isI_t, isJ_t, isA_t, vI_t, nI32_t, isF_t, gF_t, sF_t, isO_t, isP_t, isP0_t, gE_t, sE_t, isR_t, gO_t, sO_t, isS_t, vS_t, isSc_t, nSc_t, pok_i, pok_o, pok_a, pok_0, pok_1, ret_i, ret_0, ret_1, ret_v, clr_i, clr_j, clr_r, clr_n, cat_i, cat_r, kk0, kk1, kk2, eq_self, Nat.reduceEqDiff, Nat.reduceLeDiff, Nat.reduceAdd, Nat.reduceLT, Nat.reduceSub, Nat.reduceMul, forall_const, imp_false, not_true_eq_false, not_false_eq_true, false_imp_iff, Nat.zero_ne_one, Nat.one_ne_zero, Bool.false_eq_true, reduceCtorEq, ne_eq, Nat.add_zero, Nat.reduceBEq, Bool.or_false, Bool.or_true, Bool.false_or, Bool.true_or, or_self, entL, List.flatMap_cons, List.flatMap_nil, List.reduceReplicate, ↓reduceIte, cat_j, lg_0, lg_1, lg_2, lg_3, lg_4, lg_5, lg_6, lg_7, lg_8, lg_9, lg_10, ls_0, ls_1, ls_2, ls_3, ls_4, ls_5, ls_6, ls_7, ls_8, ls_9, ls_10, st_0, st_1, st_2, st_3, st_4, st_5, st_6, t0, t14, t111, hv0]
  generalize hw6 : va_up w5 14 (rA 2 (va_up (fun _ => none) 0 (some 111))) = w6
  have u0 : w6 0 = ccO := by rw [← hw6]; exact (up_n (by decide)).trans t0
  have u14 : w6 14 = rA 2 (va_up (fun _ => none) 0 (some 111)) := by rw [← hw6]; exact up_e
  have u1 : ∀ x, x ≠ 14 → w6 x = w5 x := fun x hx => by rw [← hw6]; exact up_n hx
  have u1001 : w6 1001 = ar 4 6 fs := ((u1 1001 (by decide)).trans (tF 1001 (by decide) (by decide))).trans ((rF2 1001 (by decide)).trans hS.1)
  clear hw6
  refine go_ok hJ (fun p => p == 54) 60 ?_
  simp -implicitDefEqProofs only [E_65, s_aload_n, s_invokespecial, rM_6_1, iv9, (s_new rC_6_7), s_dup, rM_6_9, iv3_1, hc_0, (s_putf rF_6_10), ft_6_0, fn_6_0, s_iconst, s_newq, rC_6_7, (s_putf rF_6_16), ft_6_1, fn_6_1, s_newa, (s_putf rF_6_20), ft_6_2, fn_6_2, (s_new rC_6_24), rM_6_26, hc_22, (s_putf rF_6_27), ft_6_3, fn_6_3, (s_new rC_6_31), rM_6_33, hc_26, (s_putf rF_6_34), ft_6_4, fn_6_4, s_istore_n, s_iload_n, s_icmp_ge, (s_getf rF_6_16), s_aastore, s_iinc, s_goto, s_return, i1_0, up_n, ret_b, bI_0, pk_us, pk_un, up_e, up_up, Decidable.not_not, nI_1, Int32.add_zero, Int32.zero_add, vz_0, tn_0, vz_1, tn_1, vz_2, tn_2, vz_3, tn_3, vz_4, tn_4, vz_5, tn_5, vz_6, tn_6, vz_7, tn_7, vz_8, tn_8, vz_9, tn_9, vz_10, tn_10, vz_11, tn_11, vz_12, tn_12, vz_13, tn_13, vz_14, tn_14, vz_15, tn_15, vz_160, tn_160, vz_161, tn_161, vz_162, tn_162, vz_163, tn_163, vz_164, tn_164, vs_0, vs_1, vs_2, vs_3, vs_4, vs_5, run_s, run_e, run_0, true_and, and_true, and_self, or_true, true_or, or_false, false_or, List.length_cons, List.length_nil, Option.toList_some, Option.toList_none, List.cons_append, List.nil_append, isI_t, isJ_t, isA_t, vI_t, nI32_t, isF_t, gF_t, sF_t, isO_t, isP_t, isP0_t, gE_t, sE_t, isR_t, gO_t, sO_t, isS_t, vS_t, isSc_t, nSc_t, pok_i, pok_o, pok_a, pok_0, pok_1, ret_i, ret_0, ret_1, ret_v, clr_i, clr_j, clr_r, clr_n, cat_i, cat_r, kk0, kk1, kk2, eq_self, Nat.reduceEqDiff, Nat.reduceLeDiff, Nat.reduceAdd, Nat.reduceLT, Nat.reduceSub, Nat.reduceMul, forall_const, imp_false, not_true_eq_false, not_false_eq_true, false_imp_iff, Nat.zero_ne_one, Nat.one_ne_zero, Bool.false_eq_true, reduceCtorEq, ne_eq, Nat.add_zero, Nat.reduceBEq, Bool.or_false, Bool.or_true, Bool.false_or, Bool.true_or, or_self, entL, List.flatMap_cons, List.flatMap_nil, List.reduceReplicate, ↓reduceIte, cat_j, lg_0, lg_1, lg_2, lg_3, lg_4, lg_5, lg_6, lg_7, lg_8, lg_9, lg_10, ls_0, ls_1, ls_2, ls_3, ls_4, ls_5, ls_6, ls_7, ls_8, ls_9, ls_10, st_0, st_1, st_2, st_3, st_4, st_5, st_6, u0, u14, hv1, show ¬ (2 : Int32) ≤ 1 by decide]
  refine ⟨12, by decide, ?_⟩
  refine C_crInit (fs := fs) (by omega) ((up_n (by omega)).trans u1001) up_e fun w7 hC7 hF7 => ?_
  have x0 : w7 0 = ccO := ((hF7 0 (by omega)).trans (up_n (by omega))).trans u0
  have x14 : w7 14 = rA 2 (va_up (fun _ => none) 0 (some 111)) := ((hF7 14 (by omega)).trans (up_n (by omega))).trans u14
  have xF : ∀ x, x ≠ 14 → x < 124 ∨ 137 ≤ x → w7 x = w5 x := fun x h1 h2 => by
    rw [hF7 _ (by omega), up_n (by omega)]
    exact u1 x h1
  have x124 := hC7.at.1
  clear hF7
  refine go_ok hJ (fun p => p == 54) 60 ?_
  simp -implicitDefEqProofs only [E_65, s_aload_n, s_invokespecial, rM_6_1, iv9, (s_new rC_6_7), s_dup, rM_6_9, iv3_1, hc_0, (s_putf rF_6_10), ft_6_0, fn_6_0, s_iconst, s_newq, rC_6_7, (s_putf rF_6_16), ft_6_1, fn_6_1, s_newa, (s_putf rF_6_20), ft_6_2, fn_6_2, (s_new rC_6_24), rM_6_26, hc_22, (s_putf rF_6_27), ft_6_3, fn_6_3, (s_new rC_6_31), rM_6_33, hc_26, (s_putf rF_6_34), ft_6_4, fn_6_4, s_istore_n, s_iload_n, s_icmp_ge, (s_getf rF_6_16), s_aastore, s_iinc, s_goto, s_return, i1_0, up_n, ret_b, bI_0, pk_us, pk_un, up_e, up_up, Decidable.not_not, nI_1, Int32.add_zero, Int32.zero_add, vz_0, tn_0, vz_1, tn_1, vz_2, tn_2, vz_3, tn_3, vz_4, tn_4, vz_5, tn_5, vz_6, tn_6, vz_7, tn_7, vz_8, tn_8, vz_9, tn_9, vz_10, tn_10, vz_11, tn_11, vz_12, tn_12, vz_13, tn_13, vz_14, tn_14, vz_15, tn_15, vz_160, tn_160, vz_161, tn_161, vz_162, tn_162, vz_163, tn_163, vz_164, tn_164, vs_0, vs_1, vs_2, vs_3, vs_4, vs_5, run_s, run_e, run_0, true_and, and_true, and_self, or_true, true_or, or_false, false_or, List.length_cons, List.length_nil, Option.toList_some, Option.toList_none, List.cons_append, List.nil_append, isI_t, isJ_t, isA_t, vI_t, nI32_t, isF_t, gF_t, sF_t, isO_t, isP_t, isP0_t, gE_t, sE_t, isR_t, gO_t, sO_t, isS_t, vS_t, isSc_t, nSc_t, pok_i, pok_o, pok_a, pok_0, pok_1, ret_i, ret_0, ret_1, ret_v, clr_i, clr_j, clr_r, clr_n, cat_i, cat_r, kk0, kk1, kk2, eq_self, Nat.reduceEqDiff, Nat.reduceLeDiff, Nat.reduceAdd, Nat.reduceLT, Nat.reduceSub, Nat.reduceMul, forall_const, imp_false, not_true_eq_false, not_false_eq_true, false_imp_iff, Nat.zero_ne_one, Nat.one_ne_zero, Bool.false_eq_true, reduceCtorEq, ne_eq, Nat.add_zero, Nat.reduceBEq, Bool.or_false, Bool.or_true, Bool.false_or, Bool.true_or, or_self, entL, List.flatMap_cons, List.flatMap_nil, List.reduceReplicate, ↓reduceIte, cat_j, lg_0, lg_1, lg_2, lg_3, lg_4, lg_5, lg_6, lg_7, lg_8, lg_9, lg_10, ls_0, ls_1, ls_2, ls_3, ls_4, ls_5, ls_6, ls_7, ls_8, ls_9, ls_10, st_0, st_1, st_2, st_3, st_4, st_5, st_6, x0, x14, x124, hv1]
  have fin : ∀ w8 : Wd, w8 = va_up w7 14 (rA 2 (va_up (va_up (fun _ => none) 0 (some 111)) 1 (some 124))) → Q none w8 := by
    intro w8 hw8
    subst hw8
    refine hQ _ (hW _ _ ?_ ((up_n (by decide)).trans x0) up_e ?_ ?_) ?_
    · intro x h1 h2 h3
      rw [up_n h3, xF x h3 (by omega), tF x h1 (by omega)]
    · intro j hj
      rcases (show j = 0 ∨ j = 1 by omega) with rfl | rfl <;> rfl
    · intro j hj
      rcases (show j = 0 ∨ j = 1 by omega) with rfl | rfl
      · exact hC5.fr fun i hi => by rw [up_n (by omega), xF _ (by omega) (by omega)]
      · exact hC7.fr fun i hi => up_n (by omega)
    · intro x hx
      rw [up_n (by omega), xF _ (by omega) (by omega), tF _ (by omega) (by omega), rF2 _ (by omega)]
  have e := fin _ rfl
  rw [show (1 : Int32) + 1 = 2 by decide]
  refine go_ok hJ (fun _ => false) 60 ?_
  simp -implicitDefEqProofs only [E_65, s_aload_n, s_invokespecial, rM_6_1, iv9, (s_new rC_6_7), s_dup, rM_6_9, iv3_1, hc_0, (s_putf rF_6_10), ft_6_0, fn_6_0, s_iconst, s_newq, rC_6_7, (s_putf rF_6_16), ft_6_1, fn_6_1, s_newa, (s_putf rF_6_20), ft_6_2, fn_6_2, (s_new rC_6_24), rM_6_26, hc_22, (s_putf rF_6_27), ft_6_3, fn_6_3, (s_new rC_6_31), rM_6_33, hc_26, (s_putf rF_6_34), ft_6_4, fn_6_4, s_istore_n, s_iload_n, s_icmp_ge, (s_getf rF_6_16), s_aastore, s_iinc, s_goto, s_return, i1_0, up_n, ret_b, bI_0, pk_us, pk_un, up_e, up_up, Decidable.not_not, nI_1, Int32.add_zero, Int32.zero_add, vz_0, tn_0, vz_1, tn_1, vz_2, tn_2, vz_3, tn_3, vz_4, tn_4, vz_5, tn_5, vz_6, tn_6, vz_7, tn_7, vz_8, tn_8, vz_9, tn_9, vz_10, tn_10, vz_11, tn_11, vz_12, tn_12, vz_13, tn_13, vz_14, tn_14, vz_15, tn_15, vz_160, tn_160, vz_161, tn_161, vz_162, tn_162, vz_163, tn_163, vz_164, tn_164, vs_0, vs_1, vs_2, vs_3, vs_4, vs_5, run_s, run_e, run_0, true_and, and_true, and_self, or_true, true_or, or_false, false_or, List.length_cons, List.length_nil, Option.toList_some, Option.toList_none, List.cons_append, List.nil_append, isI_t, isJ_t, isA_t, vI_t, nI32_t, isF_t, gF_t, sF_t, isO_t, isP_t, isP0_t, gE_t, sE_t, isR_t, gO_t, sO_t, isS_t, vS_t, isSc_t, nSc_t, pok_i, pok_o, pok_a, pok_0, pok_1, ret_i, ret_0, ret_1, ret_v, clr_i, clr_j, clr_r, clr_n, cat_i, cat_r, kk0, kk1, kk2, eq_self, Nat.reduceEqDiff, Nat.reduceLeDiff, Nat.reduceAdd, Nat.reduceLT, Nat.reduceSub, Nat.reduceMul, forall_const, imp_false, not_true_eq_false, not_false_eq_true, false_imp_iff, Nat.zero_ne_one, Nat.one_ne_zero, Bool.false_eq_true, reduceCtorEq, ne_eq, Nat.add_zero, Nat.reduceBEq, Bool.or_false, Bool.or_true, Bool.false_or, Bool.true_or, or_self, entL, List.flatMap_cons, List.flatMap_nil, List.reduceReplicate, ↓reduceIte, cat_j, lg_0, lg_1, lg_2, lg_3, lg_4, lg_5, lg_6, lg_7, lg_8, lg_9, lg_10, ls_0, ls_1, ls_2, ls_3, ls_4, ls_5, ls_6, ls_7, ls_8, ls_9, ls_10, st_0, st_1, st_2, st_3, st_4, st_5, st_6, Int32.le_refl]
  exact e
end C7
