/-! the class: copies of cranes, the history -/
def yL : Nat → Nat
  | 0 => 7
  | 1 => 6
  | 2 => 2
  | 8 => 0
  | 9 => 32
  | 10 => 8
  | 11 => 2
  | 12 => 40
  | _ => 24
/-- the same numbers wherever a crane has any -/
def yEq (y y' : Nat → Nat → Int32) : Prop := ∀ i, i < 13 → ∀ k, k < yL i → y i k = y' i k
theorem yEq.rf {y : Nat → Nat → Int32} : yEq y y := fun _ _ _ _ => rfl
theorem yEq.tr {y y1 y2 : Nat → Nat → Int32} (h : yEq y y1) (h2 : yEq y1 y2) : yEq y y2 := fun i hi k hk => (h i hi k hk).trans (h2 i hi k hk)
theorem yEq.sy {y y1 : Nat → Nat → Int32} (h : yEq y y1) : yEq y1 y := fun i hi k hk => (h i hi k hk).symm
theorem cp_in {f g : Nat → Int32} {n j : Nat} (h : j < n) : va_cpy f g 0 0 n j = f j := by
  rw [pk_cpy_in (Nat.zero_le _) (by omega)]
  simp
section C3
variable {G : Gx} {d n : Nat} {w : Wd} {Q : Option Value → Wd → Prop} {a b : Nat}
theorem C_diCopy {v0 v1 u0 u1 : Int32} {f g : Nat → Int32} (hab : a + 13 ≤ b ∨ b + 13 ≤ a) (hn : n ≤ 1000) (ha : w (a + 11) = diO a v0 v1) (ha2 : w (a + 12) = ar 0 40 f) (hb : w (b + 11) = diO b u0 u1) (hb2 : w (b + 12) = ar 0 40 g)
    (hQ : Q none (va_up (va_up w (a + 12) (ar 0 40 (va_cpy g f 0 0 40))) (a + 11) (diO a u0 u1))) : T G (d + 1) 0 19 [.ref (a + 11), .ref (b + 11)] n w Q := by
  refine T_of false hm_19 (by decide +kernel) rfl (Nat.le_of_ble_eq_true rfl) (by omega) (fun q => by cases q) ?_
  intro J hJ
  have n1 : ¬ b + 11 = a + 12 := by omega
  have n2 : ¬ b + 11 = a + 11 := by omega
  have k40 : (40 : Int32).toNatClampNeg = 40 := rfl
  have k0 : (0 : Int32).toNatClampNeg = 0 := rfl
  refine go_ok hJ (fun _ => false) 60 ?_
  simp -implicitDefEqProofs only [E_19, s_aload_n, (s_getf rF_1_9), ft_1_0, fn_1_0, s_iconst, s_bipush, s_invokestatic, rM_1_15, iv10, isCp_t, cpE_t, (s_getf rF_1_21), ft_1_1, fn_1_1, (s_putf rF_1_21), (s_getf rF_1_25), ft_1_2, fn_1_2, (s_putf rF_1_25), s_return, i1_0, up_n, ret_b, bI_0, pk_us, pk_un, up_e, up_up, Decidable.not_not, nI_1, Int32.add_zero, Int32.zero_add, vz_0, tn_0, vz_1, tn_1, vz_2, tn_2, vz_3, tn_3, vz_4, tn_4, vz_5, tn_5, vz_6, tn_6, vz_7, tn_7, vz_8, tn_8, vz_9, tn_9, vz_10, tn_10, vz_11, tn_11, vz_12, tn_12, vz_13, tn_13, vz_14, tn_14, vz_15, tn_15, vz_160, tn_160, vz_161, tn_161, vz_162, tn_162, vz_163, tn_163, vz_164, tn_164, run_s, run_e, run_0, true_and, and_true, and_self, or_true, true_or, or_false, false_or, List.length_cons, List.length_nil, Option.toList_some, Option.toList_none, List.cons_append, List.nil_append, isI_t, isJ_t, isA_t, vI_t, nI32_t, isF_t, gF_t, sF_t, isO_t, isP_t, isP0_t, gE_t, sE_t, isR_t, gO_t, sO_t, isS_t, vS_t, isSc_t, nSc_t, pok_i, pok_o, pok_a, pok_0, pok_1, ret_i, ret_0, ret_1, ret_v, clr_i, clr_j, clr_r, clr_n, cat_i, cat_r, kk0, kk1, kk2, eq_self, Nat.reduceEqDiff, Nat.reduceLeDiff, Nat.reduceAdd, Nat.reduceLT, Nat.reduceSub, Nat.reduceMul, forall_const, imp_false, not_true_eq_false, not_false_eq_true, false_imp_iff, Nat.zero_ne_one, Nat.one_ne_zero, Bool.false_eq_true, reduceCtorEq, ne_eq, Nat.add_zero, Nat.reduceBEq, Bool.or_false, Bool.or_true, Bool.false_or, Bool.true_or, or_self, entL, List.flatMap_cons, List.flatMap_nil, List.reduceReplicate, ↓reduceIte, cat_j, lg_0, lg_1, lg_2, lg_3, lg_4, lg_5, lg_6, lg_7, lg_8, lg_9, lg_10, ls_0, ls_1, ls_2, ls_3, ls_4, ls_5, ls_6, ls_7, ls_8, ls_9, ls_10, st_0, st_1, st_2, st_3, st_4, st_5, st_6, ha, ha2, hb, hb2, n1, n2, k40, k0, Nat.le_refl, Nat.zero_add, Nat.add_left_cancel_iff, show ¬ (40 : Int32) < 0 by decide, show ¬ (0 : Int32) < 0 by decide]
  exact hQ
theorem C_ptCopy {f f2 g g2 : Nat → Int32} (hab : a + 13 ≤ b ∨ b + 13 ≤ a) (hn : n ≤ 1000) (ha : w (a + 8) = ptO a) (ha2 : w (a + 9) = ar 0 32 f) (ha3 : w (a + 10) = ar 0 8 f2) (hb : w (b + 8) = ptO b) (hb2 : w (b + 9) = ar 0 32 g) (hb3 : w (b + 10) = ar 0 8 g2)
    (hQ : Q none (va_up (va_up w (a + 9) (ar 0 32 (va_cpy g f 0 0 32))) (a + 10) (ar 0 8 (va_cpy g2 f2 0 0 8)))) : T G (d + 1) 0 43 [.ref (a + 8), .ref (b + 8)] n w Q := by
  refine T_of false hm_43 (by decide +kernel) rfl (Nat.le_of_ble_eq_true rfl) (by omega) (fun q => by cases q) ?_
  intro J hJ
  have n1 : ¬ b + 8 = a + 9 := by omega
  have n2 : ¬ b + 10 = a + 9 := by omega
  have n3 : ¬ b + 10 = a + 10 := by omega
  have k40 : (32 : Int32).toNatClampNeg = 32 := rfl
  have k0 : (0 : Int32).toNatClampNeg = 0 := rfl
  refine go_ok hJ (fun _ => false) 60 ?_
  simp -implicitDefEqProofs only [E_43, s_aload_n, (s_getf rF_4_9), ft_4_0, fn_4_0, s_iconst, s_bipush, s_invokestatic, rM_4_18, iv10, isCp_t, cpE_t, (s_getf rF_4_15), ft_4_1, fn_4_1, s_return, i1_0, up_n, ret_b, bI_0, pk_us, pk_un, up_e, up_up, Decidable.not_not, nI_1, Int32.add_zero, Int32.zero_add, vz_0, tn_0, vz_1, tn_1, vz_2, tn_2, vz_3, tn_3, vz_4, tn_4, vz_5, tn_5, vz_6, tn_6, vz_7, tn_7, vz_8, tn_8, vz_9, tn_9, vz_10, tn_10, vz_11, tn_11, vz_12, tn_12, vz_13, tn_13, vz_14, tn_14, vz_15, tn_15, vz_160, tn_160, vz_161, tn_161, vz_162, tn_162, vz_163, tn_163, vz_164, tn_164, run_s, run_e, run_0, true_and, and_true, and_self, or_true, true_or, or_false, false_or, List.length_cons, List.length_nil, Option.toList_some, Option.toList_none, List.cons_append, List.nil_append, isI_t, isJ_t, isA_t, vI_t, nI32_t, isF_t, gF_t, sF_t, isO_t, isP_t, isP0_t, gE_t, sE_t, isR_t, gO_t, sO_t, isS_t, vS_t, isSc_t, nSc_t, pok_i, pok_o, pok_a, pok_0, pok_1, ret_i, ret_0, ret_1, ret_v, clr_i, clr_j, clr_r, clr_n, cat_i, cat_r, kk0, kk1, kk2, eq_self, Nat.reduceEqDiff, Nat.reduceLeDiff, Nat.reduceAdd, Nat.reduceLT, Nat.reduceSub, Nat.reduceMul, forall_const, imp_false, not_true_eq_false, not_false_eq_true, false_imp_iff, Nat.zero_ne_one, Nat.one_ne_zero, Bool.false_eq_true, reduceCtorEq, ne_eq, Nat.add_zero, Nat.reduceBEq, Bool.or_false, Bool.or_true, Bool.false_or, Bool.true_or, or_self, entL, List.flatMap_cons, List.flatMap_nil, List.reduceReplicate, ↓reduceIte, cat_j, lg_0, lg_1, lg_2, lg_3, lg_4, lg_5, lg_6, lg_7, lg_8, lg_9, lg_10, ls_0, ls_1, ls_2, ls_3, ls_4, ls_5, ls_6, ls_7, ls_8, ls_9, ls_10, st_0, st_1, st_2, st_3, st_4, st_5, st_6, ha, ha2, ha3, hb, hb2, hb3, n1, n2, n3, k40, k0, Nat.le_refl, Nat.zero_add, Nat.add_left_cancel_iff, show ¬ (32 : Int32) < 0 by decide, show ¬ (0 : Int32) < 0 by decide, show ¬ (8 : Int32) < 0 by decide]
  exact hQ
theorem C_piCopy {v0 v1 u0 u1 : Int32} {f3 f4 f5 f6 f7 g3 g4 g5 g6 g7 : Nat → Int32} (hab : a + 13 ≤ b ∨ b + 13 ≤ a) (hn : n ≤ 1000) (ha : w (a + 2) = piO a v0 v1) (hb : w (b + 2) = piO b u0 u1)
    (ha3 : w (a + 3) = ar 0 24 f3) (ha4 : w (a + 4) = ar 0 24 f4) (ha5 : w (a + 5) = ar 0 24 f5) (ha6 : w (a + 6) = ar 0 24 f6) (ha7 : w (a + 7) = ar 0 24 f7)
    (hb3 : w (b + 3) = ar 0 24 g3) (hb4 : w (b + 4) = ar 0 24 g4) (hb5 : w (b + 5) = ar 0 24 g5) (hb6 : w (b + 6) = ar 0 24 g6) (hb7 : w (b + 7) = ar 0 24 g7)
    (hQ : Q none (va_up (va_up (va_up (va_up (va_up (va_up w (a + 3) (ar 0 24 (va_cpy g3 f3 0 0 24))) (a + 4) (ar 0 24 (va_cpy g4 f4 0 0 24))) (a + 5) (ar 0 24 (va_cpy g5 f5 0 0 24))) (a + 6) (ar 0 24 (va_cpy g6 f6 0 0 24))) (a + 7) (ar 0 24 (va_cpy g7 f7 0 0 24))) (a + 2) (piO a u0 u1))) : T G (d + 1) 0 55 [.ref (a + 2), .ref (b + 2)] n w Q := by
  refine T_of false hm_55 (by decide +kernel) rfl (Nat.le_of_ble_eq_true rfl) (by omega) (fun q => by cases q) ?_
  intro J hJ
  have nn : ∀ i j, i < 13 → j < 13 → ¬ b + i = a + j := fun i j hi hj => by omega
  have k40 : (24 : Int32).toNatClampNeg = 24 := rfl
  have k0 : (0 : Int32).toNatClampNeg = 0 := rfl
  refine go_ok hJ (fun _ => false) 60 ?_
  simp -implicitDefEqProofs only [E_55, s_aload_n, (s_getf rF_5_9), ft_5_0, fn_5_0, s_iconst, s_bipush, s_invokestatic, rM_5_27, iv10, isCp_t, cpE_t, (s_getf rF_5_15), ft_5_1, fn_5_1, (s_getf rF_5_18), ft_5_2, fn_5_2, (s_getf rF_5_21), ft_5_3, fn_5_3, (s_getf rF_5_24), ft_5_4, fn_5_4, (s_getf rF_5_33), ft_5_5, fn_5_5, (s_putf rF_5_33), (s_getf rF_5_37), ft_5_6, fn_5_6, (s_putf rF_5_37), s_return, i1_0, up_n, ret_b, bI_0, pk_us, pk_un, up_e, up_up, Decidable.not_not, nI_1, Int32.add_zero, Int32.zero_add, vz_0, tn_0, vz_1, tn_1, vz_2, tn_2, vz_3, tn_3, vz_4, tn_4, vz_5, tn_5, vz_6, tn_6, vz_7, tn_7, vz_8, tn_8, vz_9, tn_9, vz_10, tn_10, vz_11, tn_11, vz_12, tn_12, vz_13, tn_13, vz_14, tn_14, vz_15, tn_15, vz_160, tn_160, vz_161, tn_161, vz_162, tn_162, vz_163, tn_163, vz_164, tn_164, run_s, run_e, run_0, true_and, and_true, and_self, or_true, true_or, or_false, false_or, List.length_cons, List.length_nil, Option.toList_some, Option.toList_none, List.cons_append, List.nil_append, isI_t, isJ_t, isA_t, vI_t, nI32_t, isF_t, gF_t, sF_t, isO_t, isP_t, isP0_t, gE_t, sE_t, isR_t, gO_t, sO_t, isS_t, vS_t, isSc_t, nSc_t, pok_i, pok_o, pok_a, pok_0, pok_1, ret_i, ret_0, ret_1, ret_v, clr_i, clr_j, clr_r, clr_n, cat_i, cat_r, kk0, kk1, kk2, eq_self, Nat.reduceEqDiff, Nat.reduceLeDiff, Nat.reduceAdd, Nat.reduceLT, Nat.reduceSub, Nat.reduceMul, forall_const, imp_false, not_true_eq_false, not_false_eq_true, false_imp_iff, Nat.zero_ne_one, Nat.one_ne_zero, Bool.false_eq_true, reduceCtorEq, ne_eq, Nat.add_zero, Nat.reduceBEq, Bool.or_false, Bool.or_true, Bool.false_or, Bool.true_or, or_self, entL, List.flatMap_cons, List.flatMap_nil, List.reduceReplicate, ↓reduceIte, cat_j, lg_0, lg_1, lg_2, lg_3, lg_4, lg_5, lg_6, lg_7, lg_8, lg_9, lg_10, ls_0, ls_1, ls_2, ls_3, ls_4, ls_5, ls_6, ls_7, ls_8, ls_9, ls_10, st_0, st_1, st_2, st_3, st_4, st_5, st_6, ha, ha3, ha4, ha5, ha6, ha7, hb, hb3, hb4, hb5, hb6, hb7, nn, k40, k0, Nat.le_refl, Nat.zero_add, Nat.add_left_cancel_iff, show ¬ (24 : Int32) < 0 by decide, show ¬ (0 : Int32) < 0 by decide]
  exact hQ
theorem CR.at {y : Nat → Nat → Int32} (hC : CR b w y) : w b = crO b (y 0 0) (y 0 1) (y 0 2) (y 0 3) (y 0 4) (y 0 5) (y 0 6) ∧ w (b + 1) = ar 0 6 (y 1) ∧ w (b + 2) = piO b (y 2 0) (y 2 1) ∧ w (b + 3) = ar 0 24 (y 3) ∧ w (b + 4) = ar 0 24 (y 4) ∧ w (b + 5) = ar 0 24 (y 5) ∧ w (b + 6) = ar 0 24 (y 6) ∧ w (b + 7) = ar 0 24 (y 7) ∧ w (b + 8) = ptO b ∧ w (b + 9) = ar 0 32 (y 9) ∧ w (b + 10) = ar 0 8 (y 10) ∧ w (b + 11) = diO b (y 11 0) (y 11 1) ∧ w (b + 12) = ar 0 40 (y 12) :=
  ⟨hC 0 (by decide), hC 1 (by decide), hC 2 (by decide), hC 3 (by decide), hC 4 (by decide), hC 5 (by decide), hC 6 (by decide), hC 7 (by decide), hC 8 (by decide), hC 9 (by decide), hC 10 (by decide), hC 11 (by decide), hC 12 (by decide)⟩
theorem CR.dj {y : Nat → Nat → Int32} {w' : Wd} (h : CR b w y) (hf : FB a (a + 13) w w') (hab : a + 13 ≤ b ∨ b + 13 ≤ a) : CR b w' y := h.fr fun j hj => hf _ (by omega)
def cpF (yb y : Nat → Nat → Int32) (i n : Nat) : Nat → Int32 := va_cpy (yb i) (y i) 0 0 n
def yPc (y yb : Nat → Nat → Int32) : Nat → Nat → Int32 := yu (yu (yu (yu (yu (yu y 3 (cpF yb y 3 24)) 4 (cpF yb y 4 24)) 5 (cpF yb y 5 24)) 6 (cpF yb y 6 24)) 7 (cpF yb y 7 24)) 2 (fl [yb 2 0, yb 2 1])
def yPt (y yb : Nat → Nat → Int32) : Nat → Nat → Int32 := yu (yu y 9 (cpF yb y 9 32)) 10 (cpF yb y 10 8)
def yDi (y yb : Nat → Nat → Int32) : Nat → Nat → Int32 := yu (yu y 12 (cpF yb y 12 40)) 11 (fl [yb 11 0, yb 11 1])
theorem FB.up6 {e1 e2 e3 e4 e5 e6 : Option En} : FB a (a + 13) w (va_up (va_up (va_up (va_up (va_up (va_up w (a + 3) e1) (a + 4) e2) (a + 5) e3) (a + 6) e4) (a + 7) e5) (a + 2) e6) :=
  (((((FB.up (by omega) (by omega)).tr (FB.up (by omega) (by omega))).tr (FB.up (by omega) (by omega))).tr (FB.up (by omega) (by omega))).tr (FB.up (by omega) (by omega))).tr (FB.up (by omega) (by omega))
theorem C_piC {y yb : Nat → Nat → Int32} (hab : a + 13 ≤ b ∨ b + 13 ≤ a) (hn : n ≤ 1000) (hA : CR a w y) (hB : CR b w yb) (hQ : ∀ w', CR a w' (yPc y yb) → FB a (a + 13) w w' → Q none w') : T G (d + 1) 0 55 [.ref (a + 2), .ref (b + 2)] n w Q := by
  obtain ⟨a0, a1, a2, a3, a4, a5, a6, a7, a8, a9, a10, a11, a12⟩ := hA.at
  obtain ⟨b0, b1, b2, b3, b4, b5, b6, b7, b8, b9, b10, b11, b12⟩ := hB.at
  refine C_piCopy hab hn a2 b2 a3 a4 a5 a6 a7 b3 b4 b5 b6 b7 ?_
  exact hQ _ ((((((hA.up (a := 3) (cpF yb y 3 24)).up (a := 4) (cpF yb y 4 24)).up (a := 5) (cpF yb y 5 24)).up (a := 6) (cpF yb y 6 24)).up (a := 7) (cpF yb y 7 24)).up (a := 2) (fl [yb 2 0, yb 2 1])) FB.up6
theorem C_ptC {y yb : Nat → Nat → Int32} (hab : a + 13 ≤ b ∨ b + 13 ≤ a) (hn : n ≤ 1000) (hA : CR a w y) (hB : CR b w yb) (hQ : ∀ w', CR a w' (yPt y yb) → FB a (a + 13) w w' → Q none w') : T G (d + 1) 0 43 [.ref (a + 8), .ref (b + 8)] n w Q := by
  obtain ⟨a0, a1, a2, a3, a4, a5, a6, a7, a8, a9, a10, a11, a12⟩ := hA.at
  obtain ⟨b0, b1, b2, b3, b4, b5, b6, b7, b8, b9, b10, b11, b12⟩ := hB.at
  refine C_ptCopy hab hn a8 a9 a10 b8 b9 b10 ?_
  exact hQ _ ((hA.up (a := 9) (cpF yb y 9 32)).up (a := 10) (cpF yb y 10 8)) ((FB.up (by omega) (by omega)).tr (FB.up (by omega) (by omega)))
theorem C_diC {y yb : Nat → Nat → Int32} (hab : a + 13 ≤ b ∨ b + 13 ≤ a) (hn : n ≤ 1000) (hA : CR a w y) (hB : CR b w yb) (hQ : ∀ w', CR a w' (yDi y yb) → FB a (a + 13) w w' → Q none w') : T G (d + 1) 0 19 [.ref (a + 11), .ref (b + 11)] n w Q := by
  obtain ⟨a0, a1, a2, a3, a4, a5, a6, a7, a8, a9, a10, a11, a12⟩ := hA.at
  obtain ⟨b0, b1, b2, b3, b4, b5, b6, b7, b8, b9, b10, b11, b12⟩ := hB.at
  refine C_diCopy hab hn a11 a12 b11 b12 ?_
  exact hQ _ ((hA.up (a := 12) (cpF yb y 12 40)).up (a := 11) (fl [yb 11 0, yb 11 1])) ((FB.up (by omega) (by omega)).tr (FB.up (by omega) (by omega)))
def yCp (y yb : Nat → Nat → Int32) : Nat → Nat → Int32 := yu (yDi (yPt (yPc (yu y 1 (cpF yb y 1 6)) yb) yb) yb) 0 (fl [yb 0 0, yb 0 1, yb 0 2, yb 0 3, yb 0 4, yb 0 5, yb 0 6])
theorem lt7 {k : Nat} (h : k < 7) : k = 0 ∨ k = 1 ∨ k = 2 ∨ k = 3 ∨ k = 4 ∨ k = 5 ∨ k = 6 := by omega
theorem lt13 {k : Nat} (h : k < 13) : k = 0 ∨ k = 1 ∨ k = 2 ∨ k = 3 ∨ k = 4 ∨ k = 5 ∨ k = 6 ∨ k = 7 ∨ k = 8 ∨ k = 9 ∨ k = 10 ∨ k = 11 ∨ k = 12 := by omega
theorem yCp_eq {y yb : Nat → Nat → Int32} : yEq (yCp y yb) yb := by
  intro i hi k hk
  rcases lt13 hi with rfl | rfl | rfl | rfl | rfl | rfl | rfl | rfl | rfl | rfl | rfl | rfl | rfl
  · rcases lt7 hk with rfl | rfl | rfl | rfl | rfl | rfl | rfl <;> rfl
  · exact cp_in hk
  · rcases (show k = 0 ∨ k = 1 by have : k < 2 := hk; omega) with rfl | rfl <;> rfl
  · exact cp_in hk
  · exact cp_in hk
  · exact cp_in hk
  · exact cp_in hk
  · exact cp_in hk
  · exact absurd hk (Nat.not_lt_zero _)
  · exact cp_in hk
  · exact cp_in hk
  · rcases (show k = 0 ∨ k = 1 by have : k < 2 := hk; omega) with rfl | rfl <;> rfl
  · exact cp_in hk
theorem C_copyFrom {y yb : Nat → Nat → Int32} (hab : a + 13 ≤ b ∨ b + 13 ≤ a) (hn : n ≤ 1000) (hA : CR a w y) (hB : CR b w yb) (hQ : ∀ w' y', CR a w' y' → yEq y' yb → FB a (a + 13) w w' → Q none w') : T G (d + 2) 0 1 [.ref a, .ref b] n w Q := by
  refine T_of false hm_1 (by decide +kernel) rfl (Nat.le_of_ble_eq_true rfl) (by omega) (fun q => by cases q) ?_
  intro J hJ
  obtain ⟨a0, a1, a2, a3, a4, a5, a6, a7, a8, a9, a10, a11, a12⟩ := hA.at
  obtain ⟨b0, b1, b2, b3, b4, b5, b6, b7, b8, b9, b10, b11, b12⟩ := hB.at
  have nn : ∀ i j, i < 13 → j < 13 → ¬ b + i = a + j := fun i j hi hj => by omega
  have k0 : (0 : Int32).toNatClampNeg = 0 := rfl
  have m0 : ∀ j, j < 12 → ¬ a = a + (j + 1) := fun j _ => by omega
  have m1 : ∀ j, j < 12 → ¬ a + (j + 1) = a := fun j _ => by omega
  have m2 : ∀ j, j < 13 → ¬ b = a + j := fun j _ => by omega
  have m3 : ∀ j, j < 13 → ¬ b + j = a := fun j _ => by omega
  have m4 : ¬ b = a := by omega
  have k6 : (6 : Int32).toNatClampNeg = 6 := rfl
  refine go_ok hJ (fun _ => false) 60 ?_
  simp -implicitDefEqProofs only [E_1, s_aload_n, (s_getf rF_0_9), ft_0_0, fn_0_0, s_iconst, s_bipush, s_invokestatic, rM_0_39, iv10, isCp_t, cpE_t, (s_getf rF_0_18), ft_0_1, fn_0_1, s_invokevirtual, rM_0_45, iv5_2, hc_55, (s_getf rF_0_25), ft_0_2, fn_0_2, rM_0_49, hc_43, (s_getf rF_0_32), ft_0_3, fn_0_3, rM_0_52, hc_19, (s_getf rF_0_55), ft_0_4, fn_0_4, (s_putf rF_0_55), (s_getf rF_0_59), ft_0_5, fn_0_5, (s_putf rF_0_59), (s_getf rF_0_62), ft_0_6, fn_0_6, (s_putf rF_0_62), (s_getf rF_0_65), ft_0_7, fn_0_7, (s_putf rF_0_65), (s_getf rF_0_68), ft_0_8, fn_0_8, (s_putf rF_0_68), (s_getf rF_0_71), ft_0_9, fn_0_9, (s_putf rF_0_71), (s_getf rF_0_74), ft_0_10, fn_0_10, (s_putf rF_0_74), s_return, i1_0, up_n, ret_b, bI_0, pk_us, pk_un, up_e, up_up, Decidable.not_not, nI_1, Int32.add_zero, Int32.zero_add, vz_0, tn_0, vz_1, tn_1, vz_2, tn_2, vz_3, tn_3, vz_4, tn_4, vz_5, tn_5, vz_6, tn_6, vz_7, tn_7, vz_8, tn_8, vz_9, tn_9, vz_10, tn_10, vz_11, tn_11, vz_12, tn_12, vz_13, tn_13, vz_14, tn_14, vz_15, tn_15, vz_160, tn_160, vz_161, tn_161, vz_162, tn_162, vz_163, tn_163, vz_164, tn_164, run_s, run_e, run_0, true_and, and_true, and_self, or_true, true_or, or_false, false_or, List.length_cons, List.length_nil, Option.toList_some, Option.toList_none, List.cons_append, List.nil_append, isI_t, isJ_t, isA_t, vI_t, nI32_t, isF_t, gF_t, sF_t, isO_t, isP_t, isP0_t, gE_t, sE_t, isR_t, gO_t, sO_t, isS_t, vS_t, isSc_t, nSc_t, pok_i, pok_o, pok_a, pok_0, pok_1, ret_i, ret_0, ret_1, ret_v, clr_i, clr_j, clr_r, clr_n, cat_i, cat_r, kk0, kk1, kk2, eq_self, Nat.reduceEqDiff, Nat.reduceLeDiff, Nat.reduceAdd, Nat.reduceLT, Nat.reduceSub, Nat.reduceMul, forall_const, imp_false, not_true_eq_false, not_false_eq_true, false_imp_iff, Nat.zero_ne_one, Nat.one_ne_zero, Bool.false_eq_true, reduceCtorEq, ne_eq, Nat.add_zero, Nat.reduceBEq, Bool.or_false, Bool.or_true, Bool.false_or, Bool.true_or, or_self, entL, List.flatMap_cons, List.flatMap_nil, List.reduceReplicate, ↓reduceIte, cat_j, lg_0, lg_1, lg_2, lg_3, lg_4, lg_5, lg_6, lg_7, lg_8, lg_9, lg_10, ls_0, ls_1, ls_2, ls_3, ls_4, ls_5, ls_6, ls_7, ls_8, ls_9, ls_10, st_0, st_1, st_2, st_3, st_4, st_5, st_6, a0, a1, b0, b1, a2, b2, a8, b8, a11, b11, nn, m0, m1, m2, m3, k6, k0, Nat.le_refl, Nat.zero_add, Nat.add_left_cancel_iff, show ¬ (6 : Int32) < 0 by decide, show ¬ (0 : Int32) < 0 by decide]
  have hA1 := hA.up (a := 1) (cpF yb y 1 6)
  have hF1 : FB a (a + 13) w (va_up w (a + 1) (yE a (cpF yb y 1 6) 1)) := FB.up (by omega) (by omega)
  show ∃ k, n + k ≤ n ∧ T G (d + 1) k 55 [.ref (a + 2), .ref (b + 2)] n (va_up w (a + 1) (yE a (cpF yb y 1 6) 1)) _
  generalize va_up w (a + 1) (yE a (cpF yb y 1 6) 1) = w1 at hA1 hF1 ⊢
  have hB1 := hB.dj hF1 hab
  refine call0 (C_piC hab hn hA1 hB1 fun w2 hA2 hF2 => ?_)
  replace hF2 := hF1.tr hF2
  have hB2 := hB.dj hF2 hab
  obtain ⟨c0, c1, c2, c3, c4, c5, c6, c7, c8, c9, c10, c11, c12⟩ := hA2.at
  obtain ⟨b0, b1, b2, b3, b4, b5, b6, b7, b8, b9, b10, b11, b12⟩ := hB2.at
  refine go_ok hJ (fun _ => false) 60 ?_
  simp -implicitDefEqProofs only [E_1, s_aload_n, (s_getf rF_0_9), ft_0_0, fn_0_0, s_iconst, s_bipush, s_invokestatic, rM_0_39, iv10, isCp_t, cpE_t, (s_getf rF_0_18), ft_0_1, fn_0_1, s_invokevirtual, rM_0_45, iv5_2, hc_55, (s_getf rF_0_25), ft_0_2, fn_0_2, rM_0_49, hc_43, (s_getf rF_0_32), ft_0_3, fn_0_3, rM_0_52, hc_19, (s_getf rF_0_55), ft_0_4, fn_0_4, (s_putf rF_0_55), (s_getf rF_0_59), ft_0_5, fn_0_5, (s_putf rF_0_59), (s_getf rF_0_62), ft_0_6, fn_0_6, (s_putf rF_0_62), (s_getf rF_0_65), ft_0_7, fn_0_7, (s_putf rF_0_65), (s_getf rF_0_68), ft_0_8, fn_0_8, (s_putf rF_0_68), (s_getf rF_0_71), ft_0_9, fn_0_9, (s_putf rF_0_71), (s_getf rF_0_74), ft_0_10, fn_0_10, (s_putf rF_0_74), s_return, i1_0, up_n, ret_b, bI_0, pk_us, pk_un, up_e, up_up, Decidable.not_not, nI_1, Int32.add_zero, Int32.zero_add, vz_0, tn_0, vz_1, tn_1, vz_2, tn_2, vz_3, tn_3, vz_4, tn_4, vz_5, tn_5, vz_6, tn_6, vz_7, tn_7, vz_8, tn_8, vz_9, tn_9, vz_10, tn_10, vz_11, tn_11, vz_12, tn_12, vz_13, tn_13, vz_14, tn_14, vz_15, tn_15, vz_160, tn_160, vz_161, tn_161, vz_162, tn_162, vz_163, tn_163, vz_164, tn_164, run_s, run_e, run_0, true_and, and_true, and_self, or_true, true_or, or_false, false_or, List.length_cons, List.length_nil, Option.toList_some, Option.toList_none, List.cons_append, List.nil_append, isI_t, isJ_t, isA_t, vI_t, nI32_t, isF_t, gF_t, sF_t, isO_t, isP_t, isP0_t, gE_t, sE_t, isR_t, gO_t, sO_t, isS_t, vS_t, isSc_t, nSc_t, pok_i, pok_o, pok_a, pok_0, pok_1, ret_i, ret_0, ret_1, ret_v, clr_i, clr_j, clr_r, clr_n, cat_i, cat_r, kk0, kk1, kk2, eq_self, Nat.reduceEqDiff, Nat.reduceLeDiff, Nat.reduceAdd, Nat.reduceLT, Nat.reduceSub, Nat.reduceMul, forall_const, imp_false, not_true_eq_false, not_false_eq_true, false_imp_iff, Nat.zero_ne_one, Nat.one_ne_zero, Bool.false_eq_true, reduceCtorEq, ne_eq, Nat.add_zero, Nat.reduceBEq, Bool.or_false, Bool.or_true, Bool.false_or, Bool.true_or, or_self, entL, List.flatMap_cons, List.flatMap_nil, List.reduceReplicate, ↓reduceIte, cat_j, lg_0, lg_1, lg_2, lg_3, lg_4, lg_5, lg_6, lg_7, lg_8, lg_9, lg_10, ls_0, ls_1, ls_2, ls_3, ls_4, ls_5, ls_6, ls_7, ls_8, ls_9, ls_10, st_0, st_1, st_2, st_3, st_4, st_5, st_6, c0, c8, b0, b8]
  refine call0 (C_ptC hab hn hA2 hB2 fun w3 hA3 hF3 => ?_)
  replace hF3 := hF2.tr hF3
  have hB3 := hB.dj hF3 hab
  obtain ⟨c0, c1, c2, c3, c4, c5, c6, c7, c8, c9, c10, c11, c12⟩ := hA3.at
  obtain ⟨b0, b1, b2, b3, b4, b5, b6, b7, b8, b9, b10, b11, b12⟩ := hB3.at
  refine go_ok hJ (fun _ => false) 60 ?_
  simp -implicitDefEqProofs only [E_1, s_aload_n, (s_getf rF_0_9), ft_0_0, fn_0_0, s_iconst, s_bipush, s_invokestatic, rM_0_39, iv10, isCp_t, cpE_t, (s_getf rF_0_18), ft_0_1, fn_0_1, s_invokevirtual, rM_0_45, iv5_2, hc_55, (s_getf rF_0_25), ft_0_2, fn_0_2, rM_0_49, hc_43, (s_getf rF_0_32), ft_0_3, fn_0_3, rM_0_52, hc_19, (s_getf rF_0_55), ft_0_4, fn_0_4, (s_putf rF_0_55), (s_getf rF_0_59), ft_0_5, fn_0_5, (s_putf rF_0_59), (s_getf rF_0_62), ft_0_6, fn_0_6, (s_putf rF_0_62), (s_getf rF_0_65), ft_0_7, fn_0_7, (s_putf rF_0_65), (s_getf rF_0_68), ft_0_8, fn_0_8, (s_putf rF_0_68), (s_getf rF_0_71), ft_0_9, fn_0_9, (s_putf rF_0_71), (s_getf rF_0_74), ft_0_10, fn_0_10, (s_putf rF_0_74), s_return, i1_0, up_n, ret_b, bI_0, pk_us, pk_un, up_e, up_up, Decidable.not_not, nI_1, Int32.add_zero, Int32.zero_add, vz_0, tn_0, vz_1, tn_1, vz_2, tn_2, vz_3, tn_3, vz_4, tn_4, vz_5, tn_5, vz_6, tn_6, vz_7, tn_7, vz_8, tn_8, vz_9, tn_9, vz_10, tn_10, vz_11, tn_11, vz_12, tn_12, vz_13, tn_13, vz_14, tn_14, vz_15, tn_15, vz_160, tn_160, vz_161, tn_161, vz_162, tn_162, vz_163, tn_163, vz_164, tn_164, run_s, run_e, run_0, true_and, and_true, and_self, or_true, true_or, or_false, false_or, List.length_cons, List.length_nil, Option.toList_some, Option.toList_none, List.cons_append, List.nil_append, isI_t, isJ_t, isA_t, vI_t, nI32_t, isF_t, gF_t, sF_t, isO_t, isP_t, isP0_t, gE_t, sE_t, isR_t, gO_t, sO_t, isS_t, vS_t, isSc_t, nSc_t, pok_i, pok_o, pok_a, pok_0, pok_1, ret_i, ret_0, ret_1, ret_v, clr_i, clr_j, clr_r, clr_n, cat_i, cat_r, kk0, kk1, kk2, eq_self, Nat.reduceEqDiff, Nat.reduceLeDiff, Nat.reduceAdd, Nat.reduceLT, Nat.reduceSub, Nat.reduceMul, forall_const, imp_false, not_true_eq_false, not_false_eq_true, false_imp_iff, Nat.zero_ne_one, Nat.one_ne_zero, Bool.false_eq_true, reduceCtorEq, ne_eq, Nat.add_zero, Nat.reduceBEq, Bool.or_false, Bool.or_true, Bool.false_or, Bool.true_or, or_self, entL, List.flatMap_cons, List.flatMap_nil, List.reduceReplicate, ↓reduceIte, cat_j, lg_0, lg_1, lg_2, lg_3, lg_4, lg_5, lg_6, lg_7, lg_8, lg_9, lg_10, ls_0, ls_1, ls_2, ls_3, ls_4, ls_5, ls_6, ls_7, ls_8, ls_9, ls_10, st_0, st_1, st_2, st_3, st_4, st_5, st_6, c0, c11, b0, b11]
  refine call0 (C_diC hab hn hA3 hB3 fun w4 hA4 hF4 => ?_)
  replace hF4 := hF3.tr hF4
  have hB4 := hB.dj hF4 hab
  obtain ⟨c0, c1, c2, c3, c4, c5, c6, c7, c8, c9, c10, c11, c12⟩ := hA4.at
  obtain ⟨b0, b1, b2, b3, b4, b5, b6, b7, b8, b9, b10, b11, b12⟩ := hB4.at
  refine go_ok hJ (fun p => p == 80) 60 ?_
  simp -implicitDefEqProofs only [E_1, s_aload_n, (s_getf rF_0_9), ft_0_0, fn_0_0, s_iconst, s_bipush, s_invokestatic, rM_0_39, iv10, isCp_t, cpE_t, (s_getf rF_0_18), ft_0_1, fn_0_1, s_invokevirtual, rM_0_45, iv5_2, hc_55, (s_getf rF_0_25), ft_0_2, fn_0_2, rM_0_49, hc_43, (s_getf rF_0_32), ft_0_3, fn_0_3, rM_0_52, hc_19, (s_getf rF_0_55), ft_0_4, fn_0_4, (s_putf rF_0_55), (s_getf rF_0_59), ft_0_5, fn_0_5, (s_putf rF_0_59), (s_getf rF_0_62), ft_0_6, fn_0_6, (s_putf rF_0_62), (s_getf rF_0_65), ft_0_7, fn_0_7, (s_putf rF_0_65), (s_getf rF_0_68), ft_0_8, fn_0_8, (s_putf rF_0_68), (s_getf rF_0_71), ft_0_9, fn_0_9, (s_putf rF_0_71), (s_getf rF_0_74), ft_0_10, fn_0_10, (s_putf rF_0_74), s_return, i1_0, up_n, ret_b, bI_0, pk_us, pk_un, up_e, up_up, Decidable.not_not, nI_1, Int32.add_zero, Int32.zero_add, vz_0, tn_0, vz_1, tn_1, vz_2, tn_2, vz_3, tn_3, vz_4, tn_4, vz_5, tn_5, vz_6, tn_6, vz_7, tn_7, vz_8, tn_8, vz_9, tn_9, vz_10, tn_10, vz_11, tn_11, vz_12, tn_12, vz_13, tn_13, vz_14, tn_14, vz_15, tn_15, vz_160, tn_160, vz_161, tn_161, vz_162, tn_162, vz_163, tn_163, vz_164, tn_164, run_s, run_e, run_0, true_and, and_true, and_self, or_true, true_or, or_false, false_or, List.length_cons, List.length_nil, Option.toList_some, Option.toList_none, List.cons_append, List.nil_append, isI_t, isJ_t, isA_t, vI_t, nI32_t, isF_t, gF_t, sF_t, isO_t, isP_t, isP0_t, gE_t, sE_t, isR_t, gO_t, sO_t, isS_t, vS_t, isSc_t, nSc_t, pok_i, pok_o, pok_a, pok_0, pok_1, ret_i, ret_0, ret_1, ret_v, clr_i, clr_j, clr_r, clr_n, cat_i, cat_r, kk0, kk1, kk2, eq_self, Nat.reduceEqDiff, Nat.reduceLeDiff, Nat.reduceAdd, Nat.reduceLT, Nat.reduceSub, Nat.reduceMul, forall_const, imp_false, not_true_eq_false, not_false_eq_true, false_imp_iff, Nat.zero_ne_one, Nat.one_ne_zero, Bool.false_eq_true, reduceCtorEq, ne_eq, Nat.add_zero, Nat.reduceBEq, Bool.or_false, Bool.or_true, Bool.false_or, Bool.true_or, or_self, entL, List.flatMap_cons, List.flatMap_nil, List.reduceReplicate, ↓reduceIte, cat_j, lg_0, lg_1, lg_2, lg_3, lg_4, lg_5, lg_6, lg_7, lg_8, lg_9, lg_10, ls_0, ls_1, ls_2, ls_3, ls_4, ls_5, ls_6, ls_7, ls_8, ls_9, ls_10, st_0, st_1, st_2, st_3, st_4, st_5, st_6, c0, b0, m4]
  refine go_ok hJ (fun _ => false) 60 ?_
  simp -implicitDefEqProofs only [E_1, s_aload_n, (s_getf rF_0_9), ft_0_0, fn_0_0, s_iconst, s_bipush, s_invokestatic, rM_0_39, iv10, isCp_t, cpE_t, (s_getf rF_0_18), ft_0_1, fn_0_1, s_invokevirtual, rM_0_45, iv5_2, hc_55, (s_getf rF_0_25), ft_0_2, fn_0_2, rM_0_49, hc_43, (s_getf rF_0_32), ft_0_3, fn_0_3, rM_0_52, hc_19, (s_getf rF_0_55), ft_0_4, fn_0_4, (s_putf rF_0_55), (s_getf rF_0_59), ft_0_5, fn_0_5, (s_putf rF_0_59), (s_getf rF_0_62), ft_0_6, fn_0_6, (s_putf rF_0_62), (s_getf rF_0_65), ft_0_7, fn_0_7, (s_putf rF_0_65), (s_getf rF_0_68), ft_0_8, fn_0_8, (s_putf rF_0_68), (s_getf rF_0_71), ft_0_9, fn_0_9, (s_putf rF_0_71), (s_getf rF_0_74), ft_0_10, fn_0_10, (s_putf rF_0_74), s_return, i1_0, up_n, ret_b, bI_0, pk_us, pk_un, up_e, up_up, Decidable.not_not, nI_1, Int32.add_zero, Int32.zero_add, vz_0, tn_0, vz_1, tn_1, vz_2, tn_2, vz_3, tn_3, vz_4, tn_4, vz_5, tn_5, vz_6, tn_6, vz_7, tn_7, vz_8, tn_8, vz_9, tn_9, vz_10, tn_10, vz_11, tn_11, vz_12, tn_12, vz_13, tn_13, vz_14, tn_14, vz_15, tn_15, vz_160, tn_160, vz_161, tn_161, vz_162, tn_162, vz_163, tn_163, vz_164, tn_164, run_s, run_e, run_0, true_and, and_true, and_self, or_true, true_or, or_false, false_or, List.length_cons, List.length_nil, Option.toList_some, Option.toList_none, List.cons_append, List.nil_append, isI_t, isJ_t, isA_t, vI_t, nI32_t, isF_t, gF_t, sF_t, isO_t, isP_t, isP0_t, gE_t, sE_t, isR_t, gO_t, sO_t, isS_t, vS_t, isSc_t, nSc_t, pok_i, pok_o, pok_a, pok_0, pok_1, ret_i, ret_0, ret_1, ret_v, clr_i, clr_j, clr_r, clr_n, cat_i, cat_r, kk0, kk1, kk2, eq_self, Nat.reduceEqDiff, Nat.reduceLeDiff, Nat.reduceAdd, Nat.reduceLT, Nat.reduceSub, Nat.reduceMul, forall_const, imp_false, not_true_eq_false, not_false_eq_true, false_imp_iff, Nat.zero_ne_one, Nat.one_ne_zero, Bool.false_eq_true, reduceCtorEq, ne_eq, Nat.add_zero, Nat.reduceBEq, Bool.or_false, Bool.or_true, Bool.false_or, Bool.true_or, or_self, entL, List.flatMap_cons, List.flatMap_nil, List.reduceReplicate, ↓reduceIte, cat_j, lg_0, lg_1, lg_2, lg_3, lg_4, lg_5, lg_6, lg_7, lg_8, lg_9, lg_10, ls_0, ls_1, ls_2, ls_3, ls_4, ls_5, ls_6, ls_7, ls_8, ls_9, ls_10, st_0, st_1, st_2, st_3, st_4, st_5, st_6, c0, b0, m4]
  exact hQ _ (yCp y yb) (hA4.up (a := 0) (fl [yb 0 0, yb 0 1, yb 0 2, yb 0 3, yb 0 4, yb 0 5, yb 0 6])) yCp_eq (hF4.tr (FB.up (by omega) (by omega)))
end C3
