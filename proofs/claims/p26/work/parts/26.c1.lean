/-! the class: its crane as one function y of rows, its pit -/
def fl (l : List Int32) : Nat → Int32 := fun k => l.getD k 0
def yu (y : Nat → Nat → Int32) (a : Nat) (f : Nat → Int32) : Nat → Nat → Int32 := fun i => if i = a then f else y i
theorem yu_e {y : Nat → Nat → Int32} {a : Nat} {f : Nat → Int32} : yu y a f a = f := if_pos rfl
theorem yu_n {y : Nat → Nat → Int32} {a i : Nat} {f : Nat → Int32} (h : i ≠ a) : yu y a f i = y i := if_neg h
theorem yu_yu {y : Nat → Nat → Int32} {a : Nat} {f g : Nat → Int32} : yu (yu y a f) a g = yu y a g := by
  funext i
  unfold yu
  split <;> rfl
abbrev crO (b : Nat) (v0 v1 v2 v3 v4 v5 v6 : Int32) : Option En := some (.inr (.inr (0, [.ref (b + 1), .ref (b + 2), .ref (b + 8), .ref (b + 11), .int v0, .int v1, .int v2, .int v3, .int v4, .int v5, .int v6])))
abbrev piO (b : Nat) (v0 v1 : Int32) : Option En := some (.inr (.inr (5, [.ref (b + 3), .ref (b + 4), .ref (b + 5), .ref (b + 6), .ref (b + 7), .int v0, .int v1])))
abbrev ptO (b : Nat) : Option En := some (.inr (.inr (4, [.ref (b + 9), .ref (b + 10)])))
abbrev diO (b : Nat) (v0 v1 : Int32) : Option En := some (.inr (.inr (1, [.ref (b + 12), .int v0, .int v1])))
/-- the crane's thirteen cells -/
def yE (b : Nat) (f : Nat → Int32) : Nat → Option En
  | 0 => crO b (f 0) (f 1) (f 2) (f 3) (f 4) (f 5) (f 6)
  | 1 => ar 0 6 f
  | 2 => piO b (f 0) (f 1)
  | 3 => ar 0 24 f
  | 4 => ar 0 24 f
  | 5 => ar 0 24 f
  | 6 => ar 0 24 f
  | 7 => ar 0 24 f
  | 8 => ptO b
  | 9 => ar 0 32 f
  | 10 => ar 0 8 f
  | 11 => diO b (f 0) (f 1)
  | 12 => ar 0 40 f
  | _ => none
def CR (b : Nat) (w : Wd) (y : Nat → Nat → Int32) : Prop := ∀ j, j < 13 → w (b + j) = yE b (y j) j
def FB (b e : Nat) (w w' : Wd) : Prop := ∀ i, i < b ∨ e ≤ i → w' i = w i
theorem FB.rf {b e : Nat} {w : Wd} : FB b e w w := fun _ _ => rfl
theorem FB.tr {b e : Nat} {w w1 w2 : Wd} (h : FB b e w w1) (h2 : FB b e w1 w2) : FB b e w w2 := fun i hi => (h2 i hi).trans (h i hi)
theorem FB.up {b e : Nat} {w : Wd} {k : Nat} {x : Option En} (h : b ≤ k) (h2 : k < e) : FB b e w (va_up w k x) := fun i hi => up_n (by omega)
theorem CR.up {b : Nat} {w : Wd} {y : Nat → Nat → Int32} (h : CR b w y) {a : Nat} (f : Nat → Int32) : CR b (va_up w (b + a) (yE b f a)) (yu y a f) := by
  intro j hj
  by_cases e : j = a
  · subst e
    rw [up_e, yu_e]
  · rw [up_n (by omega), yu_n e]
    exact h j hj
theorem CR.fr {b : Nat} {w w' : Wd} {y : Nat → Nat → Int32} (h : CR b w y) (hf : ∀ j, j < 13 → w' (b + j) = w (b + j)) : CR b w' y := fun j hj => (hf j hj).trans (h j hj)
theorem CR.un {w : Wd} {y : Nat → Nat → Int32} (h : CR 1 w y) : w 1 = crO 1 (y 0 0) (y 0 1) (y 0 2) (y 0 3) (y 0 4) (y 0 5) (y 0 6) ∧ w 2 = ar 0 6 (y 1) ∧ w 3 = piO 1 (y 2 0) (y 2 1) ∧ w 4 = ar 0 24 (y 3) ∧ w 5 = ar 0 24 (y 4) ∧ w 6 = ar 0 24 (y 5) ∧ w 7 = ar 0 24 (y 6) ∧ w 8 = ar 0 24 (y 7) ∧ w 9 = ptO 1 ∧ w 10 = ar 0 32 (y 9) ∧ w 11 = ar 0 8 (y 10) ∧ w 12 = diO 1 (y 11 0) (y 11 1) ∧ w 13 = ar 0 40 (y 12) :=
  ⟨h 0 (by decide), h 1 (by decide), h 2 (by decide), h 3 (by decide), h 4 (by decide), h 5 (by decide), h 6 (by decide), h 7 (by decide), h 8 (by decide), h 9 (by decide), h 10 (by decide), h 11 (by decide), h 12 (by decide)⟩
abbrev FX (w w' : Wd) : Prop := FB 1 14 w w'
section CRu
variable {w : Wd} {y : Nat → Nat → Int32}
theorem CR.u0 (h : CR 1 w y) (v0 v1 v2 v3 v4 v5 v6 : Int32) : CR 1 (va_up w 1 (crO 1 v0 v1 v2 v3 v4 v5 v6)) (yu y 0 (fl [v0, v1, v2, v3, v4, v5, v6])) := h.up (a := 0) (fl [v0, v1, v2, v3, v4, v5, v6])
theorem CR.u1 (h : CR 1 w y) (f : Nat → Int32) : CR 1 (va_up w 2 (ar 0 6 f)) (yu y 1 f) := h.up (a := 1) f
theorem CR.u2 (h : CR 1 w y) (v0 v1 : Int32) : CR 1 (va_up w 3 (piO 1 v0 v1)) (yu y 2 (fl [v0, v1])) := h.up (a := 2) (fl [v0, v1])
theorem CR.u3 (h : CR 1 w y) (f : Nat → Int32) : CR 1 (va_up w 4 (ar 0 24 f)) (yu y 3 f) := h.up (a := 3) f
theorem CR.u4 (h : CR 1 w y) (f : Nat → Int32) : CR 1 (va_up w 5 (ar 0 24 f)) (yu y 4 f) := h.up (a := 4) f
theorem CR.u5 (h : CR 1 w y) (f : Nat → Int32) : CR 1 (va_up w 6 (ar 0 24 f)) (yu y 5 f) := h.up (a := 5) f
theorem CR.u6 (h : CR 1 w y) (f : Nat → Int32) : CR 1 (va_up w 7 (ar 0 24 f)) (yu y 6 f) := h.up (a := 6) f
theorem CR.u7 (h : CR 1 w y) (f : Nat → Int32) : CR 1 (va_up w 8 (ar 0 24 f)) (yu y 7 f) := h.up (a := 7) f
theorem CR.u9 (h : CR 1 w y) (f : Nat → Int32) : CR 1 (va_up w 10 (ar 0 32 f)) (yu y 9 f) := h.up (a := 9) f
theorem CR.u10 (h : CR 1 w y) (f : Nat → Int32) : CR 1 (va_up w 11 (ar 0 8 f)) (yu y 10 f) := h.up (a := 10) f
theorem CR.u11 (h : CR 1 w y) (v0 v1 : Int32) : CR 1 (va_up w 12 (diO 1 v0 v1)) (yu y 11 (fl [v0, v1])) := h.up (a := 11) (fl [v0, v1])
theorem CR.u12 (h : CR 1 w y) (f : Nat → Int32) : CR 1 (va_up w 13 (ar 0 40 f)) (yu y 12 f) := h.up (a := 12) f
end CRu
theorem n4 (c : Nat) : nI c * 4 = nI (c * 4) := pk_mul c 4
theorem n10 (c : Nat) : (10 : Int32) * nI c = nI (10 * c) := pk_mul 10 c
def hOk (y : Nat → Nat → Int32) (h : Nat → Nat) : Prop := ∀ c, c < 8 → y 10 c = nI (h c) ∧ h c ≤ 4
def yAt (y : Nat → Nat → Int32) (h : Nat → Nat) (c : Nat) (v : Int32) : Int32 := if 0 ≤ v ∧ v < nI (h c) then y 9 (4 * c + v.toNatClampNeg) else -6
def yTop (y : Nat → Nat → Int32) (h : Nat → Nat) (c : Nat) : Int32 := if h c = 0 then -6 else y 9 (4 * c + (h c - 1))
def yLay (y : Nat → Nat → Int32) (h : Nat → Nat) (c : Nat) (p : Int32) : Nat → Nat → Int32 := if h c < 4 then yu (yu y 9 (upd (y 9) (4 * c + h c) p)) 10 (upd (y 10) c (nI (h c + 1))) else y
def yLift (y : Nat → Nat → Int32) (h : Nat → Nat) (c : Nat) : Nat → Nat → Int32 := if h c = 0 then y else yu y 10 (upd (y 10) c (nI (h c - 1)))
section C1
variable {G : Gx} {d : Nat} {w : Wd} {y : Nat → Nat → Int32} {h : Nat → Nat} {Q : Option Value → Wd → Prop} {c : Nat}
theorem C_prizeAt (hC : CR 1 w y) (hh : hOk y h) (hc : c < 8) {v : Int32} (hQ : Q (some (.int (yAt y h c v))) w) : T G (d + 1) 0 41 [.ref 9, .int (nI c), .int v] 137 w Q := by
  refine T_of false hm_41 (by decide +kernel) rfl (Nat.le_of_ble_eq_true rfl) (by decide) (fun q => by cases q) ?_
  intro J hJ
  obtain ⟨h1, h2, h3, h4, h5, h6, h7, h8, h9, h10, h11, h12, h13⟩ := hC.un
  obtain ⟨hc1, hc2⟩ := hh c hc
  have e14 : ¬ (0 ≤ v ∧ v < nI (h c)) → J 14 [.ref 9, .int (nI c), .int v] [] 137 w := by
    intro hn
    refine go_ok hJ (fun _ => false) 60 ?_
    simp -implicitDefEqProofs only [E_41, s_iload_n, s_if_lt, s_aload_n, (s_getf rF_4_15), ft_4_1, fn_4_1, s_iaload, s_icmp_lt, s_bipush, s_ireturn, (s_getf rF_4_9), ft_4_0, fn_4_0, s_iconst, s_imul, s_iadd, i1_0, up_n, ret_b, bI_0, pk_us, pk_un, up_e, up_up, Decidable.not_not, nI_1, Int32.add_zero, Int32.zero_add, vz_0, tn_0, vz_1, tn_1, vz_2, tn_2, vz_3, tn_3, vz_4, tn_4, vz_5, tn_5, vz_6, tn_6, vz_7, tn_7, vz_8, tn_8, vz_9, tn_9, vz_10, tn_10, vz_11, tn_11, vz_12, tn_12, vz_13, tn_13, vz_14, tn_14, vz_15, tn_15, vz_160, tn_160, vz_161, tn_161, vz_162, tn_162, vz_163, tn_163, vz_164, tn_164, vs_0, vs_1, vs_2, vs_3, vs_4, vs_5, run_s, run_e, run_0, true_and, and_true, and_self, or_true, true_or, or_false, false_or, List.length_cons, List.length_nil, Option.toList_some, Option.toList_none, List.cons_append, List.nil_append, isI_t, isJ_t, isA_t, vI_t, nI32_t, isF_t, gF_t, sF_t, isO_t, isP_t, isP0_t, gE_t, sE_t, isR_t, gO_t, sO_t, isS_t, vS_t, isSc_t, nSc_t, pok_i, pok_o, pok_a, pok_0, pok_1, ret_i, ret_0, ret_1, ret_v, clr_i, clr_j, clr_r, clr_n, cat_i, cat_r, kk0, kk1, kk2, eq_self, Nat.reduceEqDiff, Nat.reduceLeDiff, Nat.reduceAdd, Nat.reduceLT, Nat.reduceSub, Nat.reduceMul, forall_const, imp_false, not_true_eq_false, not_false_eq_true, false_imp_iff, Nat.zero_ne_one, Nat.one_ne_zero, Bool.false_eq_true, reduceCtorEq, ne_eq, Nat.add_zero, Nat.reduceBEq, Bool.or_false, Bool.or_true, Bool.false_or, Bool.true_or, or_self, entL, List.flatMap_cons, List.flatMap_nil, List.reduceReplicate, ↓reduceIte, cat_j, lg_0, lg_1, lg_2, lg_3, lg_4, lg_5, lg_6, lg_7, lg_8, lg_9, lg_10, lg_11, lg_12, lg_13, lg_14, lg_15, lg_16, ls_0, ls_1, ls_2, ls_3, ls_4, ls_5, ls_6, ls_7, ls_8, ls_9, ls_10, ls_11, ls_12, ls_13, ls_14, ls_15, ls_16, st_0, st_1, st_2, st_3, st_4, st_5, st_6, st_7, st_8, st_9, st_10, st_11, st_12, st_13, st_14, st_15]
    unfold yAt at hQ
    rwa [if_neg hn] at hQ
  refine go_ok hJ (fun p => p == 14) 60 ?_
  simp -implicitDefEqProofs only [E_41, s_iload_n, s_if_lt, s_aload_n, (s_getf rF_4_15), ft_4_1, fn_4_1, s_iaload, s_icmp_lt, s_bipush, s_ireturn, (s_getf rF_4_9), ft_4_0, fn_4_0, s_iconst, s_imul, s_iadd, i1_0, up_n, ret_b, bI_0, pk_us, pk_un, up_e, up_up, Decidable.not_not, nI_1, Int32.add_zero, Int32.zero_add, vz_0, tn_0, vz_1, tn_1, vz_2, tn_2, vz_3, tn_3, vz_4, tn_4, vz_5, tn_5, vz_6, tn_6, vz_7, tn_7, vz_8, tn_8, vz_9, tn_9, vz_10, tn_10, vz_11, tn_11, vz_12, tn_12, vz_13, tn_13, vz_14, tn_14, vz_15, tn_15, vz_160, tn_160, vz_161, tn_161, vz_162, tn_162, vz_163, tn_163, vz_164, tn_164, vs_0, vs_1, vs_2, vs_3, vs_4, vs_5, run_s, run_e, run_0, true_and, and_true, and_self, or_true, true_or, or_false, false_or, List.length_cons, List.length_nil, Option.toList_some, Option.toList_none, List.cons_append, List.nil_append, isI_t, isJ_t, isA_t, vI_t, nI32_t, isF_t, gF_t, sF_t, isO_t, isP_t, isP0_t, gE_t, sE_t, isR_t, gO_t, sO_t, isS_t, vS_t, isSc_t, nSc_t, pok_i, pok_o, pok_a, pok_0, pok_1, ret_i, ret_0, ret_1, ret_v, clr_i, clr_j, clr_r, clr_n, cat_i, cat_r, kk0, kk1, kk2, eq_self, Nat.reduceEqDiff, Nat.reduceLeDiff, Nat.reduceAdd, Nat.reduceLT, Nat.reduceSub, Nat.reduceMul, forall_const, imp_false, not_true_eq_false, not_false_eq_true, false_imp_iff, Nat.zero_ne_one, Nat.one_ne_zero, Bool.false_eq_true, reduceCtorEq, ne_eq, Nat.add_zero, Nat.reduceBEq, Bool.or_false, Bool.or_true, Bool.false_or, Bool.true_or, or_self, entL, List.flatMap_cons, List.flatMap_nil, List.reduceReplicate, ↓reduceIte, cat_j, lg_0, lg_1, lg_2, lg_3, lg_4, lg_5, lg_6, lg_7, lg_8, lg_9, lg_10, lg_11, lg_12, lg_13, lg_14, lg_15, lg_16, ls_0, ls_1, ls_2, ls_3, ls_4, ls_5, ls_6, ls_7, ls_8, ls_9, ls_10, ls_11, ls_12, ls_13, ls_14, ls_15, ls_16, st_0, st_1, st_2, st_3, st_4, st_5, st_6, st_7, st_8, st_9, st_10, st_11, st_12, st_13, st_14, st_15, h9, h10, h11, nI_clamp (n := c) (by omega), hc1, n4]
  refine ⟨fun q => e14 (fun q2 => absurd q (Int32.not_lt.mpr q2.1)), fun q => ⟨vp_in_nI hc (by decide), fun q2 => ?_, fun q2 => e14 (fun q3 => q2 q3.2)⟩⟩
  unfold yAt at hQ
  rw [if_pos ⟨Int32.not_lt.mp q, q2⟩] at hQ
  obtain ⟨j, hj, rfl⟩ := nI_of q
  have hj4 := (nI_ltI hj (by omega)).mp q2
  rw [nI_add, nI_clamp (by omega)]
  rw [nI_clamp hj] at hQ
  refine ⟨vp_in_nI (by omega) (by decide), ?_⟩
  rwa [show c * 4 + j = 4 * c + j by omega]
theorem C_top (hC : CR 1 w y) (hh : hOk y h) (hc : c < 8) (hQ : Q (some (.int (yTop y h c))) w) : T G (d + 1) 0 42 [.ref 9, .int (nI c)] 137 w Q := by
  refine T_of false hm_42 (by decide +kernel) rfl (Nat.le_of_ble_eq_true rfl) (by decide) (fun q => by cases q) ?_
  intro J hJ
  obtain ⟨h1, h2, h3, h4, h5, h6, h7, h8, h9, h10, h11, h12, h13⟩ := hC.un
  obtain ⟨hc1, hc2⟩ := hh c hc
  unfold yTop at hQ
  refine go_ok hJ (fun _ => false) 60 ?_
  simp -implicitDefEqProofs only [E_42, s_aload_n, (s_getf rF_4_15), ft_4_1, fn_4_1, s_iload_n, s_iaload, s_istore_n, s_if_le, (s_getf rF_4_9), ft_4_0, fn_4_0, s_iconst, s_imul, s_iadd, s_isub, s_goto, s_bipush, s_ireturn, i1_0, up_n, ret_b, bI_0, pk_us, pk_un, up_e, up_up, Decidable.not_not, nI_1, Int32.add_zero, Int32.zero_add, vz_0, tn_0, vz_1, tn_1, vz_2, tn_2, vz_3, tn_3, vz_4, tn_4, vz_5, tn_5, vz_6, tn_6, vz_7, tn_7, vz_8, tn_8, vz_9, tn_9, vz_10, tn_10, vz_11, tn_11, vz_12, tn_12, vz_13, tn_13, vz_14, tn_14, vz_15, tn_15, vz_160, tn_160, vz_161, tn_161, vz_162, tn_162, vz_163, tn_163, vz_164, tn_164, vs_0, vs_1, vs_2, vs_3, vs_4, vs_5, run_s, run_e, run_0, true_and, and_true, and_self, or_true, true_or, or_false, false_or, List.length_cons, List.length_nil, Option.toList_some, Option.toList_none, List.cons_append, List.nil_append, isI_t, isJ_t, isA_t, vI_t, nI32_t, isF_t, gF_t, sF_t, isO_t, isP_t, isP0_t, gE_t, sE_t, isR_t, gO_t, sO_t, isS_t, vS_t, isSc_t, nSc_t, pok_i, pok_o, pok_a, pok_0, pok_1, ret_i, ret_0, ret_1, ret_v, clr_i, clr_j, clr_r, clr_n, cat_i, cat_r, kk0, kk1, kk2, eq_self, Nat.reduceEqDiff, Nat.reduceLeDiff, Nat.reduceAdd, Nat.reduceLT, Nat.reduceSub, Nat.reduceMul, forall_const, imp_false, not_true_eq_false, not_false_eq_true, false_imp_iff, Nat.zero_ne_one, Nat.one_ne_zero, Bool.false_eq_true, reduceCtorEq, ne_eq, Nat.add_zero, Nat.reduceBEq, Bool.or_false, Bool.or_true, Bool.false_or, Bool.true_or, or_self, entL, List.flatMap_cons, List.flatMap_nil, List.reduceReplicate, ↓reduceIte, cat_j, lg_0, lg_1, lg_2, lg_3, lg_4, lg_5, lg_6, lg_7, lg_8, lg_9, lg_10, lg_11, lg_12, lg_13, lg_14, lg_15, lg_16, ls_0, ls_1, ls_2, ls_3, ls_4, ls_5, ls_6, ls_7, ls_8, ls_9, ls_10, ls_11, ls_12, ls_13, ls_14, ls_15, ls_16, st_0, st_1, st_2, st_3, st_4, st_5, st_6, st_7, st_8, st_9, st_10, st_11, st_12, st_13, st_14, st_15, h9, h10, h11, nI_clamp (n := c) (by omega), hc1, n4]
  refine ⟨vp_in_nI hc (by decide), fun q => ?_, fun q => ?_⟩
  · have h0 : h c = 0 := by
      rcases Nat.eq_zero_or_pos (h c) with e | e
      · exact e
      · exact absurd q (nI_nle e (by omega))
    rwa [if_pos h0] at hQ
  · have h0 : ¬ h c = 0 := fun e => q (by rw [e]; decide)
    rw [if_neg h0] at hQ
    rw [nI_add, show (1 : Int32) = nI 1 from rfl, pk_sub (by omega), nI_clamp (by omega)]
    refine ⟨vp_in_nI (by omega) (by decide), ?_⟩
    rwa [show c * 4 + h c - 1 = 4 * c + (h c - 1) by omega]
theorem C_lay (hC : CR 1 w y) (hh : hOk y h) (hc : c < 8) {p : Int32} (hQ : ∀ w', CR 1 w' (yLay y h c p) → FX w w' → Q none w') : T G (d + 1) 0 44 [.ref 9, .int (nI c), .int p] 137 w Q := by
  refine T_of false hm_44 (by decide +kernel) rfl (Nat.le_of_ble_eq_true rfl) (by decide) (fun q => by cases q) ?_
  intro J hJ
  obtain ⟨h1, h2, h3, h4, h5, h6, h7, h8, h9, h10, h11, h12, h13⟩ := hC.un
  obtain ⟨hc1, hc2⟩ := hh c hc
  unfold yLay at hQ
  refine go_ok hJ (fun _ => false) 60 ?_
  simp -implicitDefEqProofs only [E_44, s_aload_n, (s_getf rF_4_15), ft_4_1, fn_4_1, s_iload_n, s_iaload, s_iconst, s_icmp_ge, (s_getf rF_4_9), ft_4_0, fn_4_0, s_imul, s_iadd, s_iastore, s_dup2, s_return, i1_0, up_n, ret_b, bI_0, pk_us, pk_un, up_e, up_up, Decidable.not_not, nI_1, Int32.add_zero, Int32.zero_add, vz_0, tn_0, vz_1, tn_1, vz_2, tn_2, vz_3, tn_3, vz_4, tn_4, vz_5, tn_5, vz_6, tn_6, vz_7, tn_7, vz_8, tn_8, vz_9, tn_9, vz_10, tn_10, vz_11, tn_11, vz_12, tn_12, vz_13, tn_13, vz_14, tn_14, vz_15, tn_15, vz_160, tn_160, vz_161, tn_161, vz_162, tn_162, vz_163, tn_163, vz_164, tn_164, vs_0, vs_1, vs_2, vs_3, vs_4, vs_5, run_s, run_e, run_0, true_and, and_true, and_self, or_true, true_or, or_false, false_or, List.length_cons, List.length_nil, Option.toList_some, Option.toList_none, List.cons_append, List.nil_append, isI_t, isJ_t, isA_t, vI_t, nI32_t, isF_t, gF_t, sF_t, isO_t, isP_t, isP0_t, gE_t, sE_t, isR_t, gO_t, sO_t, isS_t, vS_t, isSc_t, nSc_t, pok_i, pok_o, pok_a, pok_0, pok_1, ret_i, ret_0, ret_1, ret_v, clr_i, clr_j, clr_r, clr_n, cat_i, cat_r, kk0, kk1, kk2, eq_self, Nat.reduceEqDiff, Nat.reduceLeDiff, Nat.reduceAdd, Nat.reduceLT, Nat.reduceSub, Nat.reduceMul, forall_const, imp_false, not_true_eq_false, not_false_eq_true, false_imp_iff, Nat.zero_ne_one, Nat.one_ne_zero, Bool.false_eq_true, reduceCtorEq, ne_eq, Nat.add_zero, Nat.reduceBEq, Bool.or_false, Bool.or_true, Bool.false_or, Bool.true_or, or_self, entL, List.flatMap_cons, List.flatMap_nil, List.reduceReplicate, ↓reduceIte, cat_j, lg_0, lg_1, lg_2, lg_3, lg_4, lg_5, lg_6, lg_7, lg_8, lg_9, lg_10, lg_11, lg_12, lg_13, lg_14, lg_15, lg_16, ls_0, ls_1, ls_2, ls_3, ls_4, ls_5, ls_6, ls_7, ls_8, ls_9, ls_10, ls_11, ls_12, ls_13, ls_14, ls_15, ls_16, st_0, st_1, st_2, st_3, st_4, st_5, st_6, st_7, st_8, st_9, st_10, st_11, st_12, st_13, st_14, st_15, h9, h10, h11, nI_clamp (n := c) (by omega), hc1, n4, nI_add]
  refine ⟨vp_in_nI hc (by decide), fun q => ?_, fun q => ?_⟩
  · have h0 : ¬ h c < 4 := fun e => absurd q (nI_ge (a := h c) (b := 4) e (by omega))
    rw [if_neg h0] at hQ
    exact hQ _ hC FB.rf
  · have h0 : h c < 4 := by
      rcases Nat.lt_or_ge (h c) 4 with e | e
      · exact e
      · exact absurd (nI_le (a := 4) e (by omega)) q
    rw [if_pos h0] at hQ
    rw [nI_clamp (n := c * 4 + h c) (by omega)]
    refine ⟨vp_in_nI hc (by decide), vp_in_nI (by omega) (by decide), vp_in_nI hc (by decide), vp_in_nI hc (by decide), ?_⟩
    rw [show 4 * c + h c = c * 4 + h c by omega] at hQ
    exact hQ _ ((hC.u9 _).u10 _) ((FB.up (by decide) (by decide)).tr (FB.up (by decide) (by decide)))
theorem C_lift (hC : CR 1 w y) (hh : hOk y h) (hc : c < 8) (hQ : ∀ w', CR 1 w' (yLift y h c) → FX w w' → Q none w') : T G (d + 1) 0 45 [.ref 9, .int (nI c)] 137 w Q := by
  refine T_of false hm_45 (by decide +kernel) rfl (Nat.le_of_ble_eq_true rfl) (by decide) (fun q => by cases q) ?_
  intro J hJ
  obtain ⟨h1, h2, h3, h4, h5, h6, h7, h8, h9, h10, h11, h12, h13⟩ := hC.un
  obtain ⟨hc1, hc2⟩ := hh c hc
  unfold yLift at hQ
  refine go_ok hJ (fun _ => false) 60 ?_
  simp -implicitDefEqProofs only [E_45, s_aload_n, (s_getf rF_4_15), ft_4_1, fn_4_1, s_iload_n, s_iaload, s_if_le, s_dup2, s_iconst, s_isub, s_iastore, s_return, i1_0, up_n, ret_b, bI_0, pk_us, pk_un, up_e, up_up, Decidable.not_not, nI_1, Int32.add_zero, Int32.zero_add, vz_0, tn_0, vz_1, tn_1, vz_2, tn_2, vz_3, tn_3, vz_4, tn_4, vz_5, tn_5, vz_6, tn_6, vz_7, tn_7, vz_8, tn_8, vz_9, tn_9, vz_10, tn_10, vz_11, tn_11, vz_12, tn_12, vz_13, tn_13, vz_14, tn_14, vz_15, tn_15, vz_160, tn_160, vz_161, tn_161, vz_162, tn_162, vz_163, tn_163, vz_164, tn_164, vs_0, vs_1, vs_2, vs_3, vs_4, vs_5, run_s, run_e, run_0, true_and, and_true, and_self, or_true, true_or, or_false, false_or, List.length_cons, List.length_nil, Option.toList_some, Option.toList_none, List.cons_append, List.nil_append, isI_t, isJ_t, isA_t, vI_t, nI32_t, isF_t, gF_t, sF_t, isO_t, isP_t, isP0_t, gE_t, sE_t, isR_t, gO_t, sO_t, isS_t, vS_t, isSc_t, nSc_t, pok_i, pok_o, pok_a, pok_0, pok_1, ret_i, ret_0, ret_1, ret_v, clr_i, clr_j, clr_r, clr_n, cat_i, cat_r, kk0, kk1, kk2, eq_self, Nat.reduceEqDiff, Nat.reduceLeDiff, Nat.reduceAdd, Nat.reduceLT, Nat.reduceSub, Nat.reduceMul, forall_const, imp_false, not_true_eq_false, not_false_eq_true, false_imp_iff, Nat.zero_ne_one, Nat.one_ne_zero, Bool.false_eq_true, reduceCtorEq, ne_eq, Nat.add_zero, Nat.reduceBEq, Bool.or_false, Bool.or_true, Bool.false_or, Bool.true_or, or_self, entL, List.flatMap_cons, List.flatMap_nil, List.reduceReplicate, ↓reduceIte, cat_j, lg_0, lg_1, lg_2, lg_3, lg_4, lg_5, lg_6, lg_7, lg_8, lg_9, lg_10, lg_11, lg_12, lg_13, lg_14, lg_15, lg_16, ls_0, ls_1, ls_2, ls_3, ls_4, ls_5, ls_6, ls_7, ls_8, ls_9, ls_10, ls_11, ls_12, ls_13, ls_14, ls_15, ls_16, st_0, st_1, st_2, st_3, st_4, st_5, st_6, st_7, st_8, st_9, st_10, st_11, st_12, st_13, st_14, st_15, h9, h10, h11, nI_clamp (n := c) (by omega), hc1]
  refine ⟨vp_in_nI hc (by decide), fun q => ?_, fun q => ?_⟩
  · have h0 : h c = 0 := by
      rcases Nat.eq_zero_or_pos (h c) with e | e
      · exact e
      · exact absurd q (nI_nle e (by omega))
    rw [if_pos h0] at hQ
    exact hQ _ hC FB.rf
  · have h0 : ¬ h c = 0 := fun e => q (by rw [e]; decide)
    rw [if_neg h0] at hQ
    rw [show (1 : Int32) = nI 1 from rfl, pk_sub (by omega)]
    refine ⟨vp_in_nI hc (by decide), vp_in_nI hc (by decide), ?_⟩
    exact hQ _ (hC.u10 _) (FB.up (by decide) (by decide))
/-- how many prizes lie in the columns below i -/
def hSum (h : Nat → Nat) : Nat → Nat
  | 0 => 0
  | i + 1 => hSum h i + h i
theorem hSum_le {y : Nat → Nat → Int32} {h : Nat → Nat} (hh : hOk y h) : ∀ i, i ≤ 8 → hSum h i ≤ 4 * i
  | 0, _ => Nat.le_refl _
  | i + 1, hi => by
    have := hSum_le hh i (by omega)
    have := (hh i (by omega)).2
    unfold hSum
    omega
def hLw (h : Nat → Nat) : Nat → Nat
  | 0 => 0
  | k + 1 => if h (k + 1) < h (hLw h k) then k + 1 else hLw h k
theorem hLw_le (h : Nat → Nat) : ∀ k, hLw h k ≤ k
  | 0 => Nat.le_refl _
  | k + 1 => by
    have := hLw_le h k
    unfold hLw
    split <;> omega
def hEm (h : Nat → Nat) : Nat → Int32
  | 0 => 0
  | i + 1 => if h i = 0 then hEm h i ||| (1 : Int32) <<< (nI i &&& 31) else hEm h i
/-- the first place from (c, k) on that holds the prize p -/
def ySp (y : Nat → Nat → Int32) (h : Nat → Nat) (p : Int32) : Nat → Int32
  | 0 => -6
  | i + 1 => ySp1 (8 - (i + 1)) (h (8 - (i + 1))) (ySp y h p i)
where
  ySp1 (c : Nat) : Nat → Int32 → Int32
  | 0, r => r
  | j + 1, r => if y 9 (4 * c + (h c - (j + 1))) = p then nI (10 * c + (h c - (j + 1))) else ySp1 c j r
theorem C_prizesInAll (hC : CR 1 w y) (hh : hOk y h) (hQ : Q (some (.int (nI (hSum h 8)))) w) : T G (d + 1) 0 46 [.ref 9] 137 w Q := by
  refine T_of false hm_46 (by decide +kernel) rfl (Nat.le_of_ble_eq_true rfl) (by decide) (fun q => by cases q) ?_
  intro J hJ
  obtain ⟨h1, h2, h3, h4, h5, h6, h7, h8, h9, h10, h11, h12, h13⟩ := hC.un
  have loop : ∀ k i, i + k = 8 → J 4 [.ref 9, .int (nI (hSum h i)), .int (nI i)] [] 137 w := by
    intro k
    induction k with
    | zero =>
      intro i hi
      obtain rfl : i = 8 := hi
      refine go_ok hJ (fun _ => false) 60 ?_
      simp -implicitDefEqProofs only [E_46, s_iconst, s_istore_n, s_iload_n, s_bipush, s_icmp_ge, s_aload_n, (s_getf rF_4_15), ft_4_1, fn_4_1, s_iaload, s_iadd, s_iinc, s_goto, s_ireturn, i1_0, up_n, ret_b, bI_0, pk_us, pk_un, up_e, up_up, Decidable.not_not, nI_1, Int32.add_zero, Int32.zero_add, vz_0, tn_0, vz_1, tn_1, vz_2, tn_2, vz_3, tn_3, vz_4, tn_4, vz_5, tn_5, vz_6, tn_6, vz_7, tn_7, vz_8, tn_8, vz_9, tn_9, vz_10, tn_10, vz_11, tn_11, vz_12, tn_12, vz_13, tn_13, vz_14, tn_14, vz_15, tn_15, vz_160, tn_160, vz_161, tn_161, vz_162, tn_162, vz_163, tn_163, vz_164, tn_164, vs_0, vs_1, vs_2, vs_3, vs_4, vs_5, run_s, run_e, run_0, true_and, and_true, and_self, or_true, true_or, or_false, false_or, List.length_cons, List.length_nil, Option.toList_some, Option.toList_none, List.cons_append, List.nil_append, isI_t, isJ_t, isA_t, vI_t, nI32_t, isF_t, gF_t, sF_t, isO_t, isP_t, isP0_t, gE_t, sE_t, isR_t, gO_t, sO_t, isS_t, vS_t, isSc_t, nSc_t, pok_i, pok_o, pok_a, pok_0, pok_1, ret_i, ret_0, ret_1, ret_v, clr_i, clr_j, clr_r, clr_n, cat_i, cat_r, kk0, kk1, kk2, eq_self, Nat.reduceEqDiff, Nat.reduceLeDiff, Nat.reduceAdd, Nat.reduceLT, Nat.reduceSub, Nat.reduceMul, forall_const, imp_false, not_true_eq_false, not_false_eq_true, false_imp_iff, Nat.zero_ne_one, Nat.one_ne_zero, Bool.false_eq_true, reduceCtorEq, ne_eq, Nat.add_zero, Nat.reduceBEq, Bool.or_false, Bool.or_true, Bool.false_or, Bool.true_or, or_self, entL, List.flatMap_cons, List.flatMap_nil, List.reduceReplicate, ↓reduceIte, cat_j, lg_0, lg_1, lg_2, lg_3, lg_4, lg_5, lg_6, lg_7, lg_8, lg_9, lg_10, lg_11, lg_12, lg_13, lg_14, lg_15, lg_16, ls_0, ls_1, ls_2, ls_3, ls_4, ls_5, ls_6, ls_7, ls_8, ls_9, ls_10, ls_11, ls_12, ls_13, ls_14, ls_15, ls_16, st_0, st_1, st_2, st_3, st_4, st_5, st_6, st_7, st_8, st_9, st_10, st_11, st_12, st_13, st_14, st_15]
      exact ⟨fun _ => hQ, fun h => absurd (Int32.le_refl _) h⟩
    | succ k ih =>
      intro i hi
      have e := ih (i + 1) (by omega)
      obtain ⟨hc1, hc2⟩ := hh i (by omega)
      refine go_ok hJ (fun p => p == 4) 60 ?_
      simp -implicitDefEqProofs only [E_46, s_iconst, s_istore_n, s_iload_n, s_bipush, s_icmp_ge, s_aload_n, (s_getf rF_4_15), ft_4_1, fn_4_1, s_iaload, s_iadd, s_iinc, s_goto, s_ireturn, i1_0, up_n, ret_b, bI_0, pk_us, pk_un, up_e, up_up, Decidable.not_not, nI_1, Int32.add_zero, Int32.zero_add, vz_0, tn_0, vz_1, tn_1, vz_2, tn_2, vz_3, tn_3, vz_4, tn_4, vz_5, tn_5, vz_6, tn_6, vz_7, tn_7, vz_8, tn_8, vz_9, tn_9, vz_10, tn_10, vz_11, tn_11, vz_12, tn_12, vz_13, tn_13, vz_14, tn_14, vz_15, tn_15, vz_160, tn_160, vz_161, tn_161, vz_162, tn_162, vz_163, tn_163, vz_164, tn_164, vs_0, vs_1, vs_2, vs_3, vs_4, vs_5, run_s, run_e, run_0, true_and, and_true, and_self, or_true, true_or, or_false, false_or, List.length_cons, List.length_nil, Option.toList_some, Option.toList_none, List.cons_append, List.nil_append, isI_t, isJ_t, isA_t, vI_t, nI32_t, isF_t, gF_t, sF_t, isO_t, isP_t, isP0_t, gE_t, sE_t, isR_t, gO_t, sO_t, isS_t, vS_t, isSc_t, nSc_t, pok_i, pok_o, pok_a, pok_0, pok_1, ret_i, ret_0, ret_1, ret_v, clr_i, clr_j, clr_r, clr_n, cat_i, cat_r, kk0, kk1, kk2, eq_self, Nat.reduceEqDiff, Nat.reduceLeDiff, Nat.reduceAdd, Nat.reduceLT, Nat.reduceSub, Nat.reduceMul, forall_const, imp_false, not_true_eq_false, not_false_eq_true, false_imp_iff, Nat.zero_ne_one, Nat.one_ne_zero, Bool.false_eq_true, reduceCtorEq, ne_eq, Nat.add_zero, Nat.reduceBEq, Bool.or_false, Bool.or_true, Bool.false_or, Bool.true_or, or_self, entL, List.flatMap_cons, List.flatMap_nil, List.reduceReplicate, ↓reduceIte, cat_j, lg_0, lg_1, lg_2, lg_3, lg_4, lg_5, lg_6, lg_7, lg_8, lg_9, lg_10, lg_11, lg_12, lg_13, lg_14, lg_15, lg_16, ls_0, ls_1, ls_2, ls_3, ls_4, ls_5, ls_6, ls_7, ls_8, ls_9, ls_10, ls_11, ls_12, ls_13, ls_14, ls_15, ls_16, st_0, st_1, st_2, st_3, st_4, st_5, st_6, st_7, st_8, st_9, st_10, st_11, st_12, st_13, st_14, st_15, h9, h11, nI_clamp (n := i) (by omega), hc1, nI_add]
      exact ⟨fun q => absurd q (nI_ge (a := i) (b := 8) (by omega) (by omega)), fun _ => ⟨vp_in_nI (by omega) (by omega), e⟩⟩
  refine go_ok hJ (fun p => p == 4) 60 ?_
  simp -implicitDefEqProofs only [E_46, s_iconst, s_istore_n, s_iload_n, s_bipush, s_icmp_ge, s_aload_n, (s_getf rF_4_15), ft_4_1, fn_4_1, s_iaload, s_iadd, s_iinc, s_goto, s_ireturn, i1_0, up_n, ret_b, bI_0, pk_us, pk_un, up_e, up_up, Decidable.not_not, nI_1, Int32.add_zero, Int32.zero_add, vz_0, tn_0, vz_1, tn_1, vz_2, tn_2, vz_3, tn_3, vz_4, tn_4, vz_5, tn_5, vz_6, tn_6, vz_7, tn_7, vz_8, tn_8, vz_9, tn_9, vz_10, tn_10, vz_11, tn_11, vz_12, tn_12, vz_13, tn_13, vz_14, tn_14, vz_15, tn_15, vz_160, tn_160, vz_161, tn_161, vz_162, tn_162, vz_163, tn_163, vz_164, tn_164, vs_0, vs_1, vs_2, vs_3, vs_4, vs_5, run_s, run_e, run_0, true_and, and_true, and_self, or_true, true_or, or_false, false_or, List.length_cons, List.length_nil, Option.toList_some, Option.toList_none, List.cons_append, List.nil_append, isI_t, isJ_t, isA_t, vI_t, nI32_t, isF_t, gF_t, sF_t, isO_t, isP_t, isP0_t, gE_t, sE_t, isR_t, gO_t, sO_t, isS_t, vS_t, isSc_t, nSc_t, pok_i, pok_o, pok_a, pok_0, pok_1, ret_i, ret_0, ret_1, ret_v, clr_i, clr_j, clr_r, clr_n, cat_i, cat_r, kk0, kk1, kk2, eq_self, Nat.reduceEqDiff, Nat.reduceLeDiff, Nat.reduceAdd, Nat.reduceLT, Nat.reduceSub, Nat.reduceMul, forall_const, imp_false, not_true_eq_false, not_false_eq_true, false_imp_iff, Nat.zero_ne_one, Nat.one_ne_zero, Bool.false_eq_true, reduceCtorEq, ne_eq, Nat.add_zero, Nat.reduceBEq, Bool.or_false, Bool.or_true, Bool.false_or, Bool.true_or, or_self, entL, List.flatMap_cons, List.flatMap_nil, List.reduceReplicate, ↓reduceIte, cat_j, lg_0, lg_1, lg_2, lg_3, lg_4, lg_5, lg_6, lg_7, lg_8, lg_9, lg_10, lg_11, lg_12, lg_13, lg_14, lg_15, lg_16, ls_0, ls_1, ls_2, ls_3, ls_4, ls_5, ls_6, ls_7, ls_8, ls_9, ls_10, ls_11, ls_12, ls_13, ls_14, ls_15, ls_16, st_0, st_1, st_2, st_3, st_4, st_5, st_6, st_7, st_8, st_9, st_10, st_11, st_12, st_13, st_14, st_15]
  exact loop 8 0 (by omega)
theorem C_lowestColumn (hC : CR 1 w y) (hh : hOk y h) (hQ : Q (some (.int (nI (hLw h 7)))) w) : T G (d + 1) 0 47 [.ref 9] 137 w Q := by
  refine T_of false hm_47 (by decide +kernel) rfl (Nat.le_of_ble_eq_true rfl) (by decide) (fun q => by cases q) ?_
  intro J hJ
  obtain ⟨h1, h2, h3, h4, h5, h6, h7, h8, h9, h10, h11, h12, h13⟩ := hC.un
  have loop : ∀ k i, i + k = 7 → J 4 [.ref 9, .int (nI (hLw h i)), .int (nI (i + 1))] [] 137 w := by
    intro k
    induction k with
    | zero =>
      intro i hi
      obtain rfl : i = 7 := hi
      refine go_ok hJ (fun _ => false) 60 ?_
      simp -implicitDefEqProofs only [E_47, s_iconst, s_istore_n, s_iload_n, s_bipush, s_icmp_ge, s_aload_n, (s_getf rF_4_15), ft_4_1, fn_4_1, s_iaload, s_iinc, s_goto, s_ireturn, i1_0, up_n, ret_b, bI_0, pk_us, pk_un, up_e, up_up, Decidable.not_not, nI_1, Int32.add_zero, Int32.zero_add, vz_0, tn_0, vz_1, tn_1, vz_2, tn_2, vz_3, tn_3, vz_4, tn_4, vz_5, tn_5, vz_6, tn_6, vz_7, tn_7, vz_8, tn_8, vz_9, tn_9, vz_10, tn_10, vz_11, tn_11, vz_12, tn_12, vz_13, tn_13, vz_14, tn_14, vz_15, tn_15, vz_160, tn_160, vz_161, tn_161, vz_162, tn_162, vz_163, tn_163, vz_164, tn_164, vs_0, vs_1, vs_2, vs_3, vs_4, vs_5, run_s, run_e, run_0, true_and, and_true, and_self, or_true, true_or, or_false, false_or, List.length_cons, List.length_nil, Option.toList_some, Option.toList_none, List.cons_append, List.nil_append, isI_t, isJ_t, isA_t, vI_t, nI32_t, isF_t, gF_t, sF_t, isO_t, isP_t, isP0_t, gE_t, sE_t, isR_t, gO_t, sO_t, isS_t, vS_t, isSc_t, nSc_t, pok_i, pok_o, pok_a, pok_0, pok_1, ret_i, ret_0, ret_1, ret_v, clr_i, clr_j, clr_r, clr_n, cat_i, cat_r, kk0, kk1, kk2, eq_self, Nat.reduceEqDiff, Nat.reduceLeDiff, Nat.reduceAdd, Nat.reduceLT, Nat.reduceSub, Nat.reduceMul, forall_const, imp_false, not_true_eq_false, not_false_eq_true, false_imp_iff, Nat.zero_ne_one, Nat.one_ne_zero, Bool.false_eq_true, reduceCtorEq, ne_eq, Nat.add_zero, Nat.reduceBEq, Bool.or_false, Bool.or_true, Bool.false_or, Bool.true_or, or_self, entL, List.flatMap_cons, List.flatMap_nil, List.reduceReplicate, ↓reduceIte, cat_j, lg_0, lg_1, lg_2, lg_3, lg_4, lg_5, lg_6, lg_7, lg_8, lg_9, lg_10, lg_11, lg_12, lg_13, lg_14, lg_15, lg_16, ls_0, ls_1, ls_2, ls_3, ls_4, ls_5, ls_6, ls_7, ls_8, ls_9, ls_10, ls_11, ls_12, ls_13, ls_14, ls_15, ls_16, st_0, st_1, st_2, st_3, st_4, st_5, st_6, st_7, st_8, st_9, st_10, st_11, st_12, st_13, st_14, st_15]
      exact ⟨fun _ => hQ, fun h => absurd (Int32.le_refl _) h⟩
    | succ k ih =>
      intro i hi
      have e := ih (i + 1) (by omega)
      obtain ⟨hc1, hc2⟩ := hh (i + 1) (by omega)
      have hl := hLw_le h i
      obtain ⟨hd1, hd2⟩ := hh (hLw h i) (by omega)
      refine go_ok hJ (fun p => p == 4) 60 ?_
      simp -implicitDefEqProofs only [E_47, s_iconst, s_istore_n, s_iload_n, s_bipush, s_icmp_ge, s_aload_n, (s_getf rF_4_15), ft_4_1, fn_4_1, s_iaload, s_iinc, s_goto, s_ireturn, i1_0, up_n, ret_b, bI_0, pk_us, pk_un, up_e, up_up, Decidable.not_not, nI_1, Int32.add_zero, Int32.zero_add, vz_0, tn_0, vz_1, tn_1, vz_2, tn_2, vz_3, tn_3, vz_4, tn_4, vz_5, tn_5, vz_6, tn_6, vz_7, tn_7, vz_8, tn_8, vz_9, tn_9, vz_10, tn_10, vz_11, tn_11, vz_12, tn_12, vz_13, tn_13, vz_14, tn_14, vz_15, tn_15, vz_160, tn_160, vz_161, tn_161, vz_162, tn_162, vz_163, tn_163, vz_164, tn_164, vs_0, vs_1, vs_2, vs_3, vs_4, vs_5, run_s, run_e, run_0, true_and, and_true, and_self, or_true, true_or, or_false, false_or, List.length_cons, List.length_nil, Option.toList_some, Option.toList_none, List.cons_append, List.nil_append, isI_t, isJ_t, isA_t, vI_t, nI32_t, isF_t, gF_t, sF_t, isO_t, isP_t, isP0_t, gE_t, sE_t, isR_t, gO_t, sO_t, isS_t, vS_t, isSc_t, nSc_t, pok_i, pok_o, pok_a, pok_0, pok_1, ret_i, ret_0, ret_1, ret_v, clr_i, clr_j, clr_r, clr_n, cat_i, cat_r, kk0, kk1, kk2, eq_self, Nat.reduceEqDiff, Nat.reduceLeDiff, Nat.reduceAdd, Nat.reduceLT, Nat.reduceSub, Nat.reduceMul, forall_const, imp_false, not_true_eq_false, not_false_eq_true, false_imp_iff, Nat.zero_ne_one, Nat.one_ne_zero, Bool.false_eq_true, reduceCtorEq, ne_eq, Nat.add_zero, Nat.reduceBEq, Bool.or_false, Bool.or_true, Bool.false_or, Bool.true_or, or_self, entL, List.flatMap_cons, List.flatMap_nil, List.reduceReplicate, ↓reduceIte, cat_j, lg_0, lg_1, lg_2, lg_3, lg_4, lg_5, lg_6, lg_7, lg_8, lg_9, lg_10, lg_11, lg_12, lg_13, lg_14, lg_15, lg_16, ls_0, ls_1, ls_2, ls_3, ls_4, ls_5, ls_6, ls_7, ls_8, ls_9, ls_10, ls_11, ls_12, ls_13, ls_14, ls_15, ls_16, st_0, st_1, st_2, st_3, st_4, st_5, st_6, st_7, st_8, st_9, st_10, st_11, st_12, st_13, st_14, st_15, h9, h11, nI_clamp (n := i + 1) (by omega), nI_clamp (n := hLw h i) (by omega), hc1, hd1]
      refine ⟨fun q => absurd q (nI_ge (a := i + 1) (b := 8) (by omega) (by omega)), fun _ => ⟨vp_in_nI (by omega) (by omega), vp_in_nI (by omega) (by omega), fun q => ?_, fun q => ?_⟩⟩
      · have hn : ¬ h (i + 1) < h (hLw h i) := fun q2 => absurd q (nI_ge q2 (by omega))
        rwa [show hLw h (i + 1) = hLw h i from if_neg hn] at e
      · have hn : h (i + 1) < h (hLw h i) := by
          rcases Nat.lt_or_ge (h (i + 1)) (h (hLw h i)) with q2 | q2
          · exact q2
          · exact absurd (nI_le q2 (by omega)) q
        rwa [show hLw h (i + 1) = i + 1 from if_pos hn] at e
  refine go_ok hJ (fun p => p == 4) 60 ?_
  simp -implicitDefEqProofs only [E_47, s_iconst, s_istore_n, s_iload_n, s_bipush, s_icmp_ge, s_aload_n, (s_getf rF_4_15), ft_4_1, fn_4_1, s_iaload, s_iinc, s_goto, s_ireturn, i1_0, up_n, ret_b, bI_0, pk_us, pk_un, up_e, up_up, Decidable.not_not, nI_1, Int32.add_zero, Int32.zero_add, vz_0, tn_0, vz_1, tn_1, vz_2, tn_2, vz_3, tn_3, vz_4, tn_4, vz_5, tn_5, vz_6, tn_6, vz_7, tn_7, vz_8, tn_8, vz_9, tn_9, vz_10, tn_10, vz_11, tn_11, vz_12, tn_12, vz_13, tn_13, vz_14, tn_14, vz_15, tn_15, vz_160, tn_160, vz_161, tn_161, vz_162, tn_162, vz_163, tn_163, vz_164, tn_164, vs_0, vs_1, vs_2, vs_3, vs_4, vs_5, run_s, run_e, run_0, true_and, and_true, and_self, or_true, true_or, or_false, false_or, List.length_cons, List.length_nil, Option.toList_some, Option.toList_none, List.cons_append, List.nil_append, isI_t, isJ_t, isA_t, vI_t, nI32_t, isF_t, gF_t, sF_t, isO_t, isP_t, isP0_t, gE_t, sE_t, isR_t, gO_t, sO_t, isS_t, vS_t, isSc_t, nSc_t, pok_i, pok_o, pok_a, pok_0, pok_1, ret_i, ret_0, ret_1, ret_v, clr_i, clr_j, clr_r, clr_n, cat_i, cat_r, kk0, kk1, kk2, eq_self, Nat.reduceEqDiff, Nat.reduceLeDiff, Nat.reduceAdd, Nat.reduceLT, Nat.reduceSub, Nat.reduceMul, forall_const, imp_false, not_true_eq_false, not_false_eq_true, false_imp_iff, Nat.zero_ne_one, Nat.one_ne_zero, Bool.false_eq_true, reduceCtorEq, ne_eq, Nat.add_zero, Nat.reduceBEq, Bool.or_false, Bool.or_true, Bool.false_or, Bool.true_or, or_self, entL, List.flatMap_cons, List.flatMap_nil, List.reduceReplicate, ↓reduceIte, cat_j, lg_0, lg_1, lg_2, lg_3, lg_4, lg_5, lg_6, lg_7, lg_8, lg_9, lg_10, lg_11, lg_12, lg_13, lg_14, lg_15, lg_16, ls_0, ls_1, ls_2, ls_3, ls_4, ls_5, ls_6, ls_7, ls_8, ls_9, ls_10, ls_11, ls_12, ls_13, ls_14, ls_15, ls_16, st_0, st_1, st_2, st_3, st_4, st_5, st_6, st_7, st_8, st_9, st_10, st_11, st_12, st_13, st_14, st_15]
  exact loop 7 0 (by omega)
theorem C_emptyColumns (hC : CR 1 w y) (hh : hOk y h) (hQ : Q (some (.int (hEm h 8))) w) : T G (d + 1) 0 48 [.ref 9] 137 w Q := by
  refine T_of false hm_48 (by decide +kernel) rfl (Nat.le_of_ble_eq_true rfl) (by decide) (fun q => by cases q) ?_
  intro J hJ
  obtain ⟨h1, h2, h3, h4, h5, h6, h7, h8, h9, h10, h11, h12, h13⟩ := hC.un
  have loop : ∀ k i, i + k = 8 → J 4 [.ref 9, .int (hEm h i), .int (nI i)] [] 137 w := by
    intro k
    induction k with
    | zero =>
      intro i hi
      obtain rfl : i = 8 := hi
      refine go_ok hJ (fun _ => false) 60 ?_
      simp -implicitDefEqProofs only [E_48, s_iconst, s_istore_n, s_iload_n, s_bipush, s_icmp_ge, s_aload_n, (s_getf rF_4_15), ft_4_1, fn_4_1, s_iaload, s_if_ne, s_ishl, s_ior, s_iinc, s_goto, s_ireturn, i1_0, up_n, ret_b, bI_0, pk_us, pk_un, up_e, up_up, Decidable.not_not, nI_1, Int32.add_zero, Int32.zero_add, vz_0, tn_0, vz_1, tn_1, vz_2, tn_2, vz_3, tn_3, vz_4, tn_4, vz_5, tn_5, vz_6, tn_6, vz_7, tn_7, vz_8, tn_8, vz_9, tn_9, vz_10, tn_10, vz_11, tn_11, vz_12, tn_12, vz_13, tn_13, vz_14, tn_14, vz_15, tn_15, vz_160, tn_160, vz_161, tn_161, vz_162, tn_162, vz_163, tn_163, vz_164, tn_164, vs_0, vs_1, vs_2, vs_3, vs_4, vs_5, run_s, run_e, run_0, true_and, and_true, and_self, or_true, true_or, or_false, false_or, List.length_cons, List.length_nil, Option.toList_some, Option.toList_none, List.cons_append, List.nil_append, isI_t, isJ_t, isA_t, vI_t, nI32_t, isF_t, gF_t, sF_t, isO_t, isP_t, isP0_t, gE_t, sE_t, isR_t, gO_t, sO_t, isS_t, vS_t, isSc_t, nSc_t, pok_i, pok_o, pok_a, pok_0, pok_1, ret_i, ret_0, ret_1, ret_v, clr_i, clr_j, clr_r, clr_n, cat_i, cat_r, kk0, kk1, kk2, eq_self, Nat.reduceEqDiff, Nat.reduceLeDiff, Nat.reduceAdd, Nat.reduceLT, Nat.reduceSub, Nat.reduceMul, forall_const, imp_false, not_true_eq_false, not_false_eq_true, false_imp_iff, Nat.zero_ne_one, Nat.one_ne_zero, Bool.false_eq_true, reduceCtorEq, ne_eq, Nat.add_zero, Nat.reduceBEq, Bool.or_false, Bool.or_true, Bool.false_or, Bool.true_or, or_self, entL, List.flatMap_cons, List.flatMap_nil, List.reduceReplicate, ↓reduceIte, cat_j, lg_0, lg_1, lg_2, lg_3, lg_4, lg_5, lg_6, lg_7, lg_8, lg_9, lg_10, lg_11, lg_12, lg_13, lg_14, lg_15, lg_16, ls_0, ls_1, ls_2, ls_3, ls_4, ls_5, ls_6, ls_7, ls_8, ls_9, ls_10, ls_11, ls_12, ls_13, ls_14, ls_15, ls_16, st_0, st_1, st_2, st_3, st_4, st_5, st_6, st_7, st_8, st_9, st_10, st_11, st_12, st_13, st_14, st_15]
      exact ⟨fun _ => hQ, fun h => absurd (Int32.le_refl _) h⟩
    | succ k ih =>
      intro i hi
      have e := ih (i + 1) (by omega)
      obtain ⟨hc1, hc2⟩ := hh i (by omega)
      refine go_ok hJ (fun p => p == 4) 60 ?_
      simp -implicitDefEqProofs only [E_48, s_iconst, s_istore_n, s_iload_n, s_bipush, s_icmp_ge, s_aload_n, (s_getf rF_4_15), ft_4_1, fn_4_1, s_iaload, s_if_ne, s_ishl, s_ior, s_iinc, s_goto, s_ireturn, i1_0, up_n, ret_b, bI_0, pk_us, pk_un, up_e, up_up, Decidable.not_not, nI_1, Int32.add_zero, Int32.zero_add, vz_0, tn_0, vz_1, tn_1, vz_2, tn_2, vz_3, tn_3, vz_4, tn_4, vz_5, tn_5, vz_6, tn_6, vz_7, tn_7, vz_8, tn_8, vz_9, tn_9, vz_10, tn_10, vz_11, tn_11, vz_12, tn_12, vz_13, tn_13, vz_14, tn_14, vz_15, tn_15, vz_160, tn_160, vz_161, tn_161, vz_162, tn_162, vz_163, tn_163, vz_164, tn_164, vs_0, vs_1, vs_2, vs_3, vs_4, vs_5, run_s, run_e, run_0, true_and, and_true, and_self, or_true, true_or, or_false, false_or, List.length_cons, List.length_nil, Option.toList_some, Option.toList_none, List.cons_append, List.nil_append, isI_t, isJ_t, isA_t, vI_t, nI32_t, isF_t, gF_t, sF_t, isO_t, isP_t, isP0_t, gE_t, sE_t, isR_t, gO_t, sO_t, isS_t, vS_t, isSc_t, nSc_t, pok_i, pok_o, pok_a, pok_0, pok_1, ret_i, ret_0, ret_1, ret_v, clr_i, clr_j, clr_r, clr_n, cat_i, cat_r, kk0, kk1, kk2, eq_self, Nat.reduceEqDiff, Nat.reduceLeDiff, Nat.reduceAdd, Nat.reduceLT, Nat.reduceSub, Nat.reduceMul, forall_const, imp_false, not_true_eq_false, not_false_eq_true, false_imp_iff, Nat.zero_ne_one, Nat.one_ne_zero, Bool.false_eq_true, reduceCtorEq, ne_eq, Nat.add_zero, Nat.reduceBEq, Bool.or_false, Bool.or_true, Bool.false_or, Bool.true_or, or_self, entL, List.flatMap_cons, List.flatMap_nil, List.reduceReplicate, ↓reduceIte, cat_j, lg_0, lg_1, lg_2, lg_3, lg_4, lg_5, lg_6, lg_7, lg_8, lg_9, lg_10, lg_11, lg_12, lg_13, lg_14, lg_15, lg_16, ls_0, ls_1, ls_2, ls_3, ls_4, ls_5, ls_6, ls_7, ls_8, ls_9, ls_10, ls_11, ls_12, ls_13, ls_14, ls_15, ls_16, st_0, st_1, st_2, st_3, st_4, st_5, st_6, st_7, st_8, st_9, st_10, st_11, st_12, st_13, st_14, st_15, h9, h11, nI_clamp (n := i) (by omega), hc1]
      refine ⟨fun q => absurd q (nI_ge (a := i) (b := 8) (by omega) (by omega)), fun _ => ⟨vp_in_nI (by omega) (by omega), fun q => ?_, fun q => ?_⟩⟩
      · rwa [show hEm h (i + 1) = hEm h i from if_neg (fun q2 => q (by rw [q2]; rfl))] at e
      · rwa [show hEm h (i + 1) = hEm h i ||| (1 : Int32) <<< (nI i &&& 31) from if_pos ((nI_eq (a := h i) (b := 0) (by omega) (by omega)).mp q)] at e
  refine go_ok hJ (fun p => p == 4) 60 ?_
  simp -implicitDefEqProofs only [E_48, s_iconst, s_istore_n, s_iload_n, s_bipush, s_icmp_ge, s_aload_n, (s_getf rF_4_15), ft_4_1, fn_4_1, s_iaload, s_if_ne, s_ishl, s_ior, s_iinc, s_goto, s_ireturn, i1_0, up_n, ret_b, bI_0, pk_us, pk_un, up_e, up_up, Decidable.not_not, nI_1, Int32.add_zero, Int32.zero_add, vz_0, tn_0, vz_1, tn_1, vz_2, tn_2, vz_3, tn_3, vz_4, tn_4, vz_5, tn_5, vz_6, tn_6, vz_7, tn_7, vz_8, tn_8, vz_9, tn_9, vz_10, tn_10, vz_11, tn_11, vz_12, tn_12, vz_13, tn_13, vz_14, tn_14, vz_15, tn_15, vz_160, tn_160, vz_161, tn_161, vz_162, tn_162, vz_163, tn_163, vz_164, tn_164, vs_0, vs_1, vs_2, vs_3, vs_4, vs_5, run_s, run_e, run_0, true_and, and_true, and_self, or_true, true_or, or_false, false_or, List.length_cons, List.length_nil, Option.toList_some, Option.toList_none, List.cons_append, List.nil_append, isI_t, isJ_t, isA_t, vI_t, nI32_t, isF_t, gF_t, sF_t, isO_t, isP_t, isP0_t, gE_t, sE_t, isR_t, gO_t, sO_t, isS_t, vS_t, isSc_t, nSc_t, pok_i, pok_o, pok_a, pok_0, pok_1, ret_i, ret_0, ret_1, ret_v, clr_i, clr_j, clr_r, clr_n, cat_i, cat_r, kk0, kk1, kk2, eq_self, Nat.reduceEqDiff, Nat.reduceLeDiff, Nat.reduceAdd, Nat.reduceLT, Nat.reduceSub, Nat.reduceMul, forall_const, imp_false, not_true_eq_false, not_false_eq_true, false_imp_iff, Nat.zero_ne_one, Nat.one_ne_zero, Bool.false_eq_true, reduceCtorEq, ne_eq, Nat.add_zero, Nat.reduceBEq, Bool.or_false, Bool.or_true, Bool.false_or, Bool.true_or, or_self, entL, List.flatMap_cons, List.flatMap_nil, List.reduceReplicate, ↓reduceIte, cat_j, lg_0, lg_1, lg_2, lg_3, lg_4, lg_5, lg_6, lg_7, lg_8, lg_9, lg_10, lg_11, lg_12, lg_13, lg_14, lg_15, lg_16, ls_0, ls_1, ls_2, ls_3, ls_4, ls_5, ls_6, ls_7, ls_8, ls_9, ls_10, ls_11, ls_12, ls_13, ls_14, ls_15, ls_16, st_0, st_1, st_2, st_3, st_4, st_5, st_6, st_7, st_8, st_9, st_10, st_11, st_12, st_13, st_14, st_15]
  exact loop 8 0 (by omega)
theorem C_spotOf (hC : CR 1 w y) (hh : hOk y h) {p : Int32} (hQ : Q (some (.int (ySp y h p 8))) w) : T G (d + 2) 0 43 [.ref 9, .int p] 137 w Q := by
  refine T_of false hm_43 (by decide +kernel) rfl (Nat.le_of_ble_eq_true rfl) (by decide) (fun q => by cases q) ?_
  intro J hJ
  obtain ⟨h1, h2, h3, h4, h5, h6, h7, h8, h9, h10, h11, h12, h13⟩ := hC.un
  have loop : ∀ k i, i + k = 8 → ySp y h p k = ySp y h p 8 → ∀ v, J 2 [.ref 9, .int p, .int (nI i), v] [] 137 w := by
    intro k
    induction k with
    | zero =>
      intro i hi hx v
      obtain rfl : i = 8 := hi
      rw [← hx] at hQ
      refine go_ok hJ (fun _ => false) 60 ?_
      simp -implicitDefEqProofs only [E_43, s_iconst, s_istore_n, s_iload_n, s_bipush, s_icmp_ge, s_aload_n, (s_getf rF_4_15), ft_4_1, fn_4_1, s_iaload, s_invokevirtual, rM_4_24, iv4_3, hc_41, s_icmp_ne, s_imul, s_iadd, s_ireturn, s_iinc, s_goto, i1_0, up_n, ret_b, bI_0, pk_us, pk_un, up_e, up_up, Decidable.not_not, nI_1, Int32.add_zero, Int32.zero_add, vz_0, tn_0, vz_1, tn_1, vz_2, tn_2, vz_3, tn_3, vz_4, tn_4, vz_5, tn_5, vz_6, tn_6, vz_7, tn_7, vz_8, tn_8, vz_9, tn_9, vz_10, tn_10, vz_11, tn_11, vz_12, tn_12, vz_13, tn_13, vz_14, tn_14, vz_15, tn_15, vz_160, tn_160, vz_161, tn_161, vz_162, tn_162, vz_163, tn_163, vz_164, tn_164, vs_0, vs_1, vs_2, vs_3, vs_4, vs_5, run_s, run_e, run_0, true_and, and_true, and_self, or_true, true_or, or_false, false_or, List.length_cons, List.length_nil, Option.toList_some, Option.toList_none, List.cons_append, List.nil_append, isI_t, isJ_t, isA_t, vI_t, nI32_t, isF_t, gF_t, sF_t, isO_t, isP_t, isP0_t, gE_t, sE_t, isR_t, gO_t, sO_t, isS_t, vS_t, isSc_t, nSc_t, pok_i, pok_o, pok_a, pok_0, pok_1, ret_i, ret_0, ret_1, ret_v, clr_i, clr_j, clr_r, clr_n, cat_i, cat_r, kk0, kk1, kk2, eq_self, Nat.reduceEqDiff, Nat.reduceLeDiff, Nat.reduceAdd, Nat.reduceLT, Nat.reduceSub, Nat.reduceMul, forall_const, imp_false, not_true_eq_false, not_false_eq_true, false_imp_iff, Nat.zero_ne_one, Nat.one_ne_zero, Bool.false_eq_true, reduceCtorEq, ne_eq, Nat.add_zero, Nat.reduceBEq, Bool.or_false, Bool.or_true, Bool.false_or, Bool.true_or, or_self, entL, List.flatMap_cons, List.flatMap_nil, List.reduceReplicate, ↓reduceIte, cat_j, lg_0, lg_1, lg_2, lg_3, lg_4, lg_5, lg_6, lg_7, lg_8, lg_9, lg_10, lg_11, lg_12, lg_13, lg_14, lg_15, lg_16, ls_0, ls_1, ls_2, ls_3, ls_4, ls_5, ls_6, ls_7, ls_8, ls_9, ls_10, ls_11, ls_12, ls_13, ls_14, ls_15, ls_16, st_0, st_1, st_2, st_3, st_4, st_5, st_6, st_7, st_8, st_9, st_10, st_11, st_12, st_13, st_14, st_15]
      exact ⟨fun _ => hQ, fun h => absurd (Int32.le_refl _) h⟩
    | succ k ih =>
      intro i hi hx v
      obtain ⟨hc1, hc2⟩ := hh i (by omega)
      have hi8 : 8 - (k + 1) = i := by omega
      have inner : ∀ j a, a + j = h i → ySp.ySp1 y h p i j (ySp y h p k) = ySp y h p 8 → J 10 [.ref 9, .int p, .int (nI i), .int (nI a)] [] 137 w := by
        intro j
        induction j with
        | zero =>
          intro a ha hx2
          have e := ih (i + 1) (by omega) hx2 (.int (nI a))
          obtain rfl : a = h i := ha
          refine go_ok hJ (fun p => p == 2) 60 ?_
          simp -implicitDefEqProofs only [E_43, s_iconst, s_istore_n, s_iload_n, s_bipush, s_icmp_ge, s_aload_n, (s_getf rF_4_15), ft_4_1, fn_4_1, s_iaload, s_invokevirtual, rM_4_24, iv4_3, hc_41, s_icmp_ne, s_imul, s_iadd, s_ireturn, s_iinc, s_goto, i1_0, up_n, ret_b, bI_0, pk_us, pk_un, up_e, up_up, Decidable.not_not, nI_1, Int32.add_zero, Int32.zero_add, vz_0, tn_0, vz_1, tn_1, vz_2, tn_2, vz_3, tn_3, vz_4, tn_4, vz_5, tn_5, vz_6, tn_6, vz_7, tn_7, vz_8, tn_8, vz_9, tn_9, vz_10, tn_10, vz_11, tn_11, vz_12, tn_12, vz_13, tn_13, vz_14, tn_14, vz_15, tn_15, vz_160, tn_160, vz_161, tn_161, vz_162, tn_162, vz_163, tn_163, vz_164, tn_164, vs_0, vs_1, vs_2, vs_3, vs_4, vs_5, run_s, run_e, run_0, true_and, and_true, and_self, or_true, true_or, or_false, false_or, List.length_cons, List.length_nil, Option.toList_some, Option.toList_none, List.cons_append, List.nil_append, isI_t, isJ_t, isA_t, vI_t, nI32_t, isF_t, gF_t, sF_t, isO_t, isP_t, isP0_t, gE_t, sE_t, isR_t, gO_t, sO_t, isS_t, vS_t, isSc_t, nSc_t, pok_i, pok_o, pok_a, pok_0, pok_1, ret_i, ret_0, ret_1, ret_v, clr_i, clr_j, clr_r, clr_n, cat_i, cat_r, kk0, kk1, kk2, eq_self, Nat.reduceEqDiff, Nat.reduceLeDiff, Nat.reduceAdd, Nat.reduceLT, Nat.reduceSub, Nat.reduceMul, forall_const, imp_false, not_true_eq_false, not_false_eq_true, false_imp_iff, Nat.zero_ne_one, Nat.one_ne_zero, Bool.false_eq_true, reduceCtorEq, ne_eq, Nat.add_zero, Nat.reduceBEq, Bool.or_false, Bool.or_true, Bool.false_or, Bool.true_or, or_self, entL, List.flatMap_cons, List.flatMap_nil, List.reduceReplicate, ↓reduceIte, cat_j, lg_0, lg_1, lg_2, lg_3, lg_4, lg_5, lg_6, lg_7, lg_8, lg_9, lg_10, lg_11, lg_12, lg_13, lg_14, lg_15, lg_16, ls_0, ls_1, ls_2, ls_3, ls_4, ls_5, ls_6, ls_7, ls_8, ls_9, ls_10, ls_11, ls_12, ls_13, ls_14, ls_15, ls_16, st_0, st_1, st_2, st_3, st_4, st_5, st_6, st_7, st_8, st_9, st_10, st_11, st_12, st_13, st_14, st_15, h9, h11, nI_clamp (n := i) (by omega), hc1]
          exact ⟨vp_in_nI (by omega) (by omega), fun _ => e, fun q => absurd (Int32.le_refl _) q⟩
        | succ j ih2 =>
          intro a ha hx2
          refine go_ok hJ (fun p => p == 2) 60 ?_
          simp -implicitDefEqProofs only [E_43, s_iconst, s_istore_n, s_iload_n, s_bipush, s_icmp_ge, s_aload_n, (s_getf rF_4_15), ft_4_1, fn_4_1, s_iaload, s_invokevirtual, rM_4_24, iv4_3, hc_41, s_icmp_ne, s_imul, s_iadd, s_ireturn, s_iinc, s_goto, i1_0, up_n, ret_b, bI_0, pk_us, pk_un, up_e, up_up, Decidable.not_not, nI_1, Int32.add_zero, Int32.zero_add, vz_0, tn_0, vz_1, tn_1, vz_2, tn_2, vz_3, tn_3, vz_4, tn_4, vz_5, tn_5, vz_6, tn_6, vz_7, tn_7, vz_8, tn_8, vz_9, tn_9, vz_10, tn_10, vz_11, tn_11, vz_12, tn_12, vz_13, tn_13, vz_14, tn_14, vz_15, tn_15, vz_160, tn_160, vz_161, tn_161, vz_162, tn_162, vz_163, tn_163, vz_164, tn_164, vs_0, vs_1, vs_2, vs_3, vs_4, vs_5, run_s, run_e, run_0, true_and, and_true, and_self, or_true, true_or, or_false, false_or, List.length_cons, List.length_nil, Option.toList_some, Option.toList_none, List.cons_append, List.nil_append, isI_t, isJ_t, isA_t, vI_t, nI32_t, isF_t, gF_t, sF_t, isO_t, isP_t, isP0_t, gE_t, sE_t, isR_t, gO_t, sO_t, isS_t, vS_t, isSc_t, nSc_t, pok_i, pok_o, pok_a, pok_0, pok_1, ret_i, ret_0, ret_1, ret_v, clr_i, clr_j, clr_r, clr_n, cat_i, cat_r, kk0, kk1, kk2, eq_self, Nat.reduceEqDiff, Nat.reduceLeDiff, Nat.reduceAdd, Nat.reduceLT, Nat.reduceSub, Nat.reduceMul, forall_const, imp_false, not_true_eq_false, not_false_eq_true, false_imp_iff, Nat.zero_ne_one, Nat.one_ne_zero, Bool.false_eq_true, reduceCtorEq, ne_eq, Nat.add_zero, Nat.reduceBEq, Bool.or_false, Bool.or_true, Bool.false_or, Bool.true_or, or_self, entL, List.flatMap_cons, List.flatMap_nil, List.reduceReplicate, ↓reduceIte, cat_j, lg_0, lg_1, lg_2, lg_3, lg_4, lg_5, lg_6, lg_7, lg_8, lg_9, lg_10, lg_11, lg_12, lg_13, lg_14, lg_15, lg_16, ls_0, ls_1, ls_2, ls_3, ls_4, ls_5, ls_6, ls_7, ls_8, ls_9, ls_10, ls_11, ls_12, ls_13, ls_14, ls_15, ls_16, st_0, st_1, st_2, st_3, st_4, st_5, st_6, st_7, st_8, st_9, st_10, st_11, st_12, st_13, st_14, st_15, h9, h11, nI_clamp (n := i) (by omega), hc1]
          refine ⟨vp_in_nI (by omega) (by omega), fun q => absurd q (nI_ge (a := a) (b := h i) (by omega) (by omega)), fun _ => ?_⟩
          refine call0 (C_prizeAt hC hh (by omega) ?_)
          have hya : yAt y h i (nI a) = y 9 (4 * i + a) := by
            unfold yAt
            rw [if_pos ⟨Int32.not_lt.mp (nI_pos (by omega)), nI_lt (by omega) (by omega)⟩, nI_clamp (by omega)]
          have hha : h i - (j + 1) = a := by omega
          unfold ySp.ySp1 at hx2
          rw [hha] at hx2
          refine go_ok hJ (fun p => p == 10) 60 ?_
          simp -implicitDefEqProofs only [E_43, s_iconst, s_istore_n, s_iload_n, s_bipush, s_icmp_ge, s_aload_n, (s_getf rF_4_15), ft_4_1, fn_4_1, s_iaload, s_invokevirtual, rM_4_24, iv4_3, hc_41, s_icmp_ne, s_imul, s_iadd, s_ireturn, s_iinc, s_goto, i1_0, up_n, ret_b, bI_0, pk_us, pk_un, up_e, up_up, Decidable.not_not, nI_1, Int32.add_zero, Int32.zero_add, vz_0, tn_0, vz_1, tn_1, vz_2, tn_2, vz_3, tn_3, vz_4, tn_4, vz_5, tn_5, vz_6, tn_6, vz_7, tn_7, vz_8, tn_8, vz_9, tn_9, vz_10, tn_10, vz_11, tn_11, vz_12, tn_12, vz_13, tn_13, vz_14, tn_14, vz_15, tn_15, vz_160, tn_160, vz_161, tn_161, vz_162, tn_162, vz_163, tn_163, vz_164, tn_164, vs_0, vs_1, vs_2, vs_3, vs_4, vs_5, run_s, run_e, run_0, true_and, and_true, and_self, or_true, true_or, or_false, false_or, List.length_cons, List.length_nil, Option.toList_some, Option.toList_none, List.cons_append, List.nil_append, isI_t, isJ_t, isA_t, vI_t, nI32_t, isF_t, gF_t, sF_t, isO_t, isP_t, isP0_t, gE_t, sE_t, isR_t, gO_t, sO_t, isS_t, vS_t, isSc_t, nSc_t, pok_i, pok_o, pok_a, pok_0, pok_1, ret_i, ret_0, ret_1, ret_v, clr_i, clr_j, clr_r, clr_n, cat_i, cat_r, kk0, kk1, kk2, eq_self, Nat.reduceEqDiff, Nat.reduceLeDiff, Nat.reduceAdd, Nat.reduceLT, Nat.reduceSub, Nat.reduceMul, forall_const, imp_false, not_true_eq_false, not_false_eq_true, false_imp_iff, Nat.zero_ne_one, Nat.one_ne_zero, Bool.false_eq_true, reduceCtorEq, ne_eq, Nat.add_zero, Nat.reduceBEq, Bool.or_false, Bool.or_true, Bool.false_or, Bool.true_or, or_self, entL, List.flatMap_cons, List.flatMap_nil, List.reduceReplicate, ↓reduceIte, cat_j, lg_0, lg_1, lg_2, lg_3, lg_4, lg_5, lg_6, lg_7, lg_8, lg_9, lg_10, lg_11, lg_12, lg_13, lg_14, lg_15, lg_16, ls_0, ls_1, ls_2, ls_3, ls_4, ls_5, ls_6, ls_7, ls_8, ls_9, ls_10, ls_11, ls_12, ls_13, ls_14, ls_15, ls_16, st_0, st_1, st_2, st_3, st_4, st_5, st_6, st_7, st_8, st_9, st_10, st_11, st_12, st_13, st_14, st_15, hya, n10, nI_add]
          refine ⟨fun q => ?_, fun q => ?_⟩
          · rw [if_neg q] at hx2
            exact ih2 (a + 1) (by omega) hx2
          · rw [if_pos q] at hx2
            rwa [← hx2] at hQ
      have e := inner (h i) 0 (by omega) (by rw [← hx]; simp only [ySp, hi8])
      refine go_ok hJ (fun p => p == 10) 60 ?_
      simp -implicitDefEqProofs only [E_43, s_iconst, s_istore_n, s_iload_n, s_bipush, s_icmp_ge, s_aload_n, (s_getf rF_4_15), ft_4_1, fn_4_1, s_iaload, s_invokevirtual, rM_4_24, iv4_3, hc_41, s_icmp_ne, s_imul, s_iadd, s_ireturn, s_iinc, s_goto, i1_0, up_n, ret_b, bI_0, pk_us, pk_un, up_e, up_up, Decidable.not_not, nI_1, Int32.add_zero, Int32.zero_add, vz_0, tn_0, vz_1, tn_1, vz_2, tn_2, vz_3, tn_3, vz_4, tn_4, vz_5, tn_5, vz_6, tn_6, vz_7, tn_7, vz_8, tn_8, vz_9, tn_9, vz_10, tn_10, vz_11, tn_11, vz_12, tn_12, vz_13, tn_13, vz_14, tn_14, vz_15, tn_15, vz_160, tn_160, vz_161, tn_161, vz_162, tn_162, vz_163, tn_163, vz_164, tn_164, vs_0, vs_1, vs_2, vs_3, vs_4, vs_5, run_s, run_e, run_0, true_and, and_true, and_self, or_true, true_or, or_false, false_or, List.length_cons, List.length_nil, Option.toList_some, Option.toList_none, List.cons_append, List.nil_append, isI_t, isJ_t, isA_t, vI_t, nI32_t, isF_t, gF_t, sF_t, isO_t, isP_t, isP0_t, gE_t, sE_t, isR_t, gO_t, sO_t, isS_t, vS_t, isSc_t, nSc_t, pok_i, pok_o, pok_a, pok_0, pok_1, ret_i, ret_0, ret_1, ret_v, clr_i, clr_j, clr_r, clr_n, cat_i, cat_r, kk0, kk1, kk2, eq_self, Nat.reduceEqDiff, Nat.reduceLeDiff, Nat.reduceAdd, Nat.reduceLT, Nat.reduceSub, Nat.reduceMul, forall_const, imp_false, not_true_eq_false, not_false_eq_true, false_imp_iff, Nat.zero_ne_one, Nat.one_ne_zero, Bool.false_eq_true, reduceCtorEq, ne_eq, Nat.add_zero, Nat.reduceBEq, Bool.or_false, Bool.or_true, Bool.false_or, Bool.true_or, or_self, entL, List.flatMap_cons, List.flatMap_nil, List.reduceReplicate, ↓reduceIte, cat_j, lg_0, lg_1, lg_2, lg_3, lg_4, lg_5, lg_6, lg_7, lg_8, lg_9, lg_10, lg_11, lg_12, lg_13, lg_14, lg_15, lg_16, ls_0, ls_1, ls_2, ls_3, ls_4, ls_5, ls_6, ls_7, ls_8, ls_9, ls_10, ls_11, ls_12, ls_13, ls_14, ls_15, ls_16, st_0, st_1, st_2, st_3, st_4, st_5, st_6, st_7, st_8, st_9, st_10, st_11, st_12, st_13, st_14, st_15]
      exact ⟨fun q => absurd q (nI_ge (a := i) (b := 8) (by omega) (by omega)), fun _ => e⟩
  refine go_ok hJ (fun p => p == 2) 60 ?_
  simp -implicitDefEqProofs only [E_43, s_iconst, s_istore_n, s_iload_n, s_bipush, s_icmp_ge, s_aload_n, (s_getf rF_4_15), ft_4_1, fn_4_1, s_iaload, s_invokevirtual, rM_4_24, iv4_3, hc_41, s_icmp_ne, s_imul, s_iadd, s_ireturn, s_iinc, s_goto, i1_0, up_n, ret_b, bI_0, pk_us, pk_un, up_e, up_up, Decidable.not_not, nI_1, Int32.add_zero, Int32.zero_add, vz_0, tn_0, vz_1, tn_1, vz_2, tn_2, vz_3, tn_3, vz_4, tn_4, vz_5, tn_5, vz_6, tn_6, vz_7, tn_7, vz_8, tn_8, vz_9, tn_9, vz_10, tn_10, vz_11, tn_11, vz_12, tn_12, vz_13, tn_13, vz_14, tn_14, vz_15, tn_15, vz_160, tn_160, vz_161, tn_161, vz_162, tn_162, vz_163, tn_163, vz_164, tn_164, vs_0, vs_1, vs_2, vs_3, vs_4, vs_5, run_s, run_e, run_0, true_and, and_true, and_self, or_true, true_or, or_false, false_or, List.length_cons, List.length_nil, Option.toList_some, Option.toList_none, List.cons_append, List.nil_append, isI_t, isJ_t, isA_t, vI_t, nI32_t, isF_t, gF_t, sF_t, isO_t, isP_t, isP0_t, gE_t, sE_t, isR_t, gO_t, sO_t, isS_t, vS_t, isSc_t, nSc_t, pok_i, pok_o, pok_a, pok_0, pok_1, ret_i, ret_0, ret_1, ret_v, clr_i, clr_j, clr_r, clr_n, cat_i, cat_r, kk0, kk1, kk2, eq_self, Nat.reduceEqDiff, Nat.reduceLeDiff, Nat.reduceAdd, Nat.reduceLT, Nat.reduceSub, Nat.reduceMul, forall_const, imp_false, not_true_eq_false, not_false_eq_true, false_imp_iff, Nat.zero_ne_one, Nat.one_ne_zero, Bool.false_eq_true, reduceCtorEq, ne_eq, Nat.add_zero, Nat.reduceBEq, Bool.or_false, Bool.or_true, Bool.false_or, Bool.true_or, or_self, entL, List.flatMap_cons, List.flatMap_nil, List.reduceReplicate, ↓reduceIte, cat_j, lg_0, lg_1, lg_2, lg_3, lg_4, lg_5, lg_6, lg_7, lg_8, lg_9, lg_10, lg_11, lg_12, lg_13, lg_14, lg_15, lg_16, ls_0, ls_1, ls_2, ls_3, ls_4, ls_5, ls_6, ls_7, ls_8, ls_9, ls_10, ls_11, ls_12, ls_13, ls_14, ls_15, ls_16, st_0, st_1, st_2, st_3, st_4, st_5, st_6, st_7, st_8, st_9, st_10, st_11, st_12, st_13, st_14, st_15]
  exact loop 8 0 (by omega) rfl _
/-- the height of a column, or of a wall -/
def hW (h : Nat → Nat) (v : Int32) : Int32 := if 0 ≤ v ∧ v < 8 then nI (h v.toNatClampNeg) else 4
theorem C_heightOrWall (hC : CR 1 w y) (hh : hOk y h) {v : Int32} (hQ : Q (some (.int (hW h v))) w) : T G (d + 1) 0 50 [.ref 9, .int v] 137 w Q := by
  refine T_of false hm_50 (by decide +kernel) rfl (Nat.le_of_ble_eq_true rfl) (by decide) (fun q => by cases q) ?_
  intro J hJ
  obtain ⟨h1, h2, h3, h4, h5, h6, h7, h8, h9, h10, h11, h12, h13⟩ := hC.un
  have e19 : ¬ (0 ≤ v ∧ v < 8) → J 19 [.ref 9, .int v] [] 137 w := by
    intro hn
    unfold hW at hQ
    rw [if_neg hn] at hQ
    refine go_ok hJ (fun _ => false) 60 ?_
    simp -implicitDefEqProofs only [E_50, s_iload_n, s_if_lt, s_bipush, s_icmp_ge, s_aload_n, (s_getf rF_4_15), ft_4_1, fn_4_1, s_iaload, s_goto, s_iconst, s_ireturn, i1_0, up_n, ret_b, bI_0, pk_us, pk_un, up_e, up_up, Decidable.not_not, nI_1, Int32.add_zero, Int32.zero_add, vz_0, tn_0, vz_1, tn_1, vz_2, tn_2, vz_3, tn_3, vz_4, tn_4, vz_5, tn_5, vz_6, tn_6, vz_7, tn_7, vz_8, tn_8, vz_9, tn_9, vz_10, tn_10, vz_11, tn_11, vz_12, tn_12, vz_13, tn_13, vz_14, tn_14, vz_15, tn_15, vz_160, tn_160, vz_161, tn_161, vz_162, tn_162, vz_163, tn_163, vz_164, tn_164, vs_0, vs_1, vs_2, vs_3, vs_4, vs_5, run_s, run_e, run_0, true_and, and_true, and_self, or_true, true_or, or_false, false_or, List.length_cons, List.length_nil, Option.toList_some, Option.toList_none, List.cons_append, List.nil_append, isI_t, isJ_t, isA_t, vI_t, nI32_t, isF_t, gF_t, sF_t, isO_t, isP_t, isP0_t, gE_t, sE_t, isR_t, gO_t, sO_t, isS_t, vS_t, isSc_t, nSc_t, pok_i, pok_o, pok_a, pok_0, pok_1, ret_i, ret_0, ret_1, ret_v, clr_i, clr_j, clr_r, clr_n, cat_i, cat_r, kk0, kk1, kk2, eq_self, Nat.reduceEqDiff, Nat.reduceLeDiff, Nat.reduceAdd, Nat.reduceLT, Nat.reduceSub, Nat.reduceMul, forall_const, imp_false, not_true_eq_false, not_false_eq_true, false_imp_iff, Nat.zero_ne_one, Nat.one_ne_zero, Bool.false_eq_true, reduceCtorEq, ne_eq, Nat.add_zero, Nat.reduceBEq, Bool.or_false, Bool.or_true, Bool.false_or, Bool.true_or, or_self, entL, List.flatMap_cons, List.flatMap_nil, List.reduceReplicate, ↓reduceIte, cat_j, lg_0, lg_1, lg_2, lg_3, lg_4, lg_5, lg_6, lg_7, lg_8, lg_9, lg_10, lg_11, lg_12, lg_13, lg_14, lg_15, lg_16, ls_0, ls_1, ls_2, ls_3, ls_4, ls_5, ls_6, ls_7, ls_8, ls_9, ls_10, ls_11, ls_12, ls_13, ls_14, ls_15, ls_16, st_0, st_1, st_2, st_3, st_4, st_5, st_6, st_7, st_8, st_9, st_10, st_11, st_12, st_13, st_14, st_15]
    exact hQ
  refine go_ok hJ (fun p => p == 19) 60 ?_
  simp -implicitDefEqProofs only [E_50, s_iload_n, s_if_lt, s_bipush, s_icmp_ge, s_aload_n, (s_getf rF_4_15), ft_4_1, fn_4_1, s_iaload, s_goto, s_iconst, s_ireturn, i1_0, up_n, ret_b, bI_0, pk_us, pk_un, up_e, up_up, Decidable.not_not, nI_1, Int32.add_zero, Int32.zero_add, vz_0, tn_0, vz_1, tn_1, vz_2, tn_2, vz_3, tn_3, vz_4, tn_4, vz_5, tn_5, vz_6, tn_6, vz_7, tn_7, vz_8, tn_8, vz_9, tn_9, vz_10, tn_10, vz_11, tn_11, vz_12, tn_12, vz_13, tn_13, vz_14, tn_14, vz_15, tn_15, vz_160, tn_160, vz_161, tn_161, vz_162, tn_162, vz_163, tn_163, vz_164, tn_164, vs_0, vs_1, vs_2, vs_3, vs_4, vs_5, run_s, run_e, run_0, true_and, and_true, and_self, or_true, true_or, or_false, false_or, List.length_cons, List.length_nil, Option.toList_some, Option.toList_none, List.cons_append, List.nil_append, isI_t, isJ_t, isA_t, vI_t, nI32_t, isF_t, gF_t, sF_t, isO_t, isP_t, isP0_t, gE_t, sE_t, isR_t, gO_t, sO_t, isS_t, vS_t, isSc_t, nSc_t, pok_i, pok_o, pok_a, pok_0, pok_1, ret_i, ret_0, ret_1, ret_v, clr_i, clr_j, clr_r, clr_n, cat_i, cat_r, kk0, kk1, kk2, eq_self, Nat.reduceEqDiff, Nat.reduceLeDiff, Nat.reduceAdd, Nat.reduceLT, Nat.reduceSub, Nat.reduceMul, forall_const, imp_false, not_true_eq_false, not_false_eq_true, false_imp_iff, Nat.zero_ne_one, Nat.one_ne_zero, Bool.false_eq_true, reduceCtorEq, ne_eq, Nat.add_zero, Nat.reduceBEq, Bool.or_false, Bool.or_true, Bool.false_or, Bool.true_or, or_self, entL, List.flatMap_cons, List.flatMap_nil, List.reduceReplicate, ↓reduceIte, cat_j, lg_0, lg_1, lg_2, lg_3, lg_4, lg_5, lg_6, lg_7, lg_8, lg_9, lg_10, lg_11, lg_12, lg_13, lg_14, lg_15, lg_16, ls_0, ls_1, ls_2, ls_3, ls_4, ls_5, ls_6, ls_7, ls_8, ls_9, ls_10, ls_11, ls_12, ls_13, ls_14, ls_15, ls_16, st_0, st_1, st_2, st_3, st_4, st_5, st_6, st_7, st_8, st_9, st_10, st_11, st_12, st_13, st_14, st_15, h9, h11]
  refine ⟨fun q => e19 (fun q2 => absurd q (Int32.not_lt.mpr q2.1)), fun q => ⟨fun q2 => e19 (fun q3 => absurd q2 (Int32.not_le.mpr q3.2)), fun q2 => ?_⟩⟩
  obtain ⟨j, hj, rfl⟩ := nI_of q
  have hj8 : j < 8 := by
    rcases Nat.lt_or_ge j 8 with e | e
    · exact e
    · exact absurd (nI_le (a := 8) e hj) q2
  unfold hW at hQ
  rw [if_pos ⟨Int32.not_lt.mp q, Int32.not_le.mp q2⟩, nI_clamp hj] at hQ
  rw [nI_clamp hj, (hh j hj8).1]
  exact ⟨vp_in_nI hj8 (by decide), hQ⟩
def hRo (h : Nat → Nat) (c : Nat) : Int32 := if nI (h c) - (if hW h (nI c + 1) < hW h (nI c - 1) then hW h (nI c + 1) else hW h (nI c - 1)) < 2 then -6 else if hW h (nI c + 1) < hW h (nI c - 1) then nI c + 1 else nI c - 1
theorem C_rollTarget (hC : CR 1 w y) (hh : hOk y h) (hc : c < 8) (hQ : Q (some (.int (hRo h c))) w) : T G (d + 2) 0 49 [.ref 9, .int (nI c)] 137 w Q := by
  refine T_of false hm_49 (by decide +kernel) rfl (Nat.le_of_ble_eq_true rfl) (by decide) (fun q => by cases q) ?_
  intro J hJ
  obtain ⟨h1, h2, h3, h4, h5, h6, h7, h8, h9, h10, h11, h12, h13⟩ := hC.un
  obtain ⟨hc1, hc2⟩ := hh c hc
  unfold hRo at hQ
  refine go_ok hJ (fun _ => false) 60 ?_
  simp -implicitDefEqProofs only [E_49, s_aload_n, s_iload_n, s_iconst, s_isub, s_invokevirtual, rM_4_28, iv4_2, hc_50, s_istore_n, s_iadd, (s_getf rF_4_15), ft_4_1, fn_4_1, s_iaload, s_invokestatic, rM_4_32, iv12, s_icmp_ge, s_bipush, s_ireturn, s_goto, i1_0, up_n, ret_b, bI_0, pk_us, pk_un, up_e, up_up, Decidable.not_not, nI_1, Int32.add_zero, Int32.zero_add, vz_0, tn_0, vz_1, tn_1, vz_2, tn_2, vz_3, tn_3, vz_4, tn_4, vz_5, tn_5, vz_6, tn_6, vz_7, tn_7, vz_8, tn_8, vz_9, tn_9, vz_10, tn_10, vz_11, tn_11, vz_12, tn_12, vz_13, tn_13, vz_14, tn_14, vz_15, tn_15, vz_160, tn_160, vz_161, tn_161, vz_162, tn_162, vz_163, tn_163, vz_164, tn_164, vs_0, vs_1, vs_2, vs_3, vs_4, vs_5, run_s, run_e, run_0, true_and, and_true, and_self, or_true, true_or, or_false, false_or, List.length_cons, List.length_nil, Option.toList_some, Option.toList_none, List.cons_append, List.nil_append, isI_t, isJ_t, isA_t, vI_t, nI32_t, isF_t, gF_t, sF_t, isO_t, isP_t, isP0_t, gE_t, sE_t, isR_t, gO_t, sO_t, isS_t, vS_t, isSc_t, nSc_t, pok_i, pok_o, pok_a, pok_0, pok_1, ret_i, ret_0, ret_1, ret_v, clr_i, clr_j, clr_r, clr_n, cat_i, cat_r, kk0, kk1, kk2, eq_self, Nat.reduceEqDiff, Nat.reduceLeDiff, Nat.reduceAdd, Nat.reduceLT, Nat.reduceSub, Nat.reduceMul, forall_const, imp_false, not_true_eq_false, not_false_eq_true, false_imp_iff, Nat.zero_ne_one, Nat.one_ne_zero, Bool.false_eq_true, reduceCtorEq, ne_eq, Nat.add_zero, Nat.reduceBEq, Bool.or_false, Bool.or_true, Bool.false_or, Bool.true_or, or_self, entL, List.flatMap_cons, List.flatMap_nil, List.reduceReplicate, ↓reduceIte, cat_j, lg_0, lg_1, lg_2, lg_3, lg_4, lg_5, lg_6, lg_7, lg_8, lg_9, lg_10, lg_11, lg_12, lg_13, lg_14, lg_15, lg_16, ls_0, ls_1, ls_2, ls_3, ls_4, ls_5, ls_6, ls_7, ls_8, ls_9, ls_10, ls_11, ls_12, ls_13, ls_14, ls_15, ls_16, st_0, st_1, st_2, st_3, st_4, st_5, st_6, st_7, st_8, st_9, st_10, st_11, st_12, st_13, st_14, st_15, h9]
  refine call0 (C_heightOrWall hC hh ?_)
  rw [nI_1] at hQ
  refine go_ok hJ (fun _ => false) 60 ?_
  simp -implicitDefEqProofs only [E_49, s_aload_n, s_iload_n, s_iconst, s_isub, s_invokevirtual, rM_4_28, iv4_2, hc_50, s_istore_n, s_iadd, (s_getf rF_4_15), ft_4_1, fn_4_1, s_iaload, s_invokestatic, rM_4_32, iv12, s_icmp_ge, s_bipush, s_ireturn, s_goto, i1_0, up_n, ret_b, bI_0, pk_us, pk_un, up_e, up_up, Decidable.not_not, nI_1, Int32.add_zero, Int32.zero_add, vz_0, tn_0, vz_1, tn_1, vz_2, tn_2, vz_3, tn_3, vz_4, tn_4, vz_5, tn_5, vz_6, tn_6, vz_7, tn_7, vz_8, tn_8, vz_9, tn_9, vz_10, tn_10, vz_11, tn_11, vz_12, tn_12, vz_13, tn_13, vz_14, tn_14, vz_15, tn_15, vz_160, tn_160, vz_161, tn_161, vz_162, tn_162, vz_163, tn_163, vz_164, tn_164, vs_0, vs_1, vs_2, vs_3, vs_4, vs_5, run_s, run_e, run_0, true_and, and_true, and_self, or_true, true_or, or_false, false_or, List.length_cons, List.length_nil, Option.toList_some, Option.toList_none, List.cons_append, List.nil_append, isI_t, isJ_t, isA_t, vI_t, nI32_t, isF_t, gF_t, sF_t, isO_t, isP_t, isP0_t, gE_t, sE_t, isR_t, gO_t, sO_t, isS_t, vS_t, isSc_t, nSc_t, pok_i, pok_o, pok_a, pok_0, pok_1, ret_i, ret_0, ret_1, ret_v, clr_i, clr_j, clr_r, clr_n, cat_i, cat_r, kk0, kk1, kk2, eq_self, Nat.reduceEqDiff, Nat.reduceLeDiff, Nat.reduceAdd, Nat.reduceLT, Nat.reduceSub, Nat.reduceMul, forall_const, imp_false, not_true_eq_false, not_false_eq_true, false_imp_iff, Nat.zero_ne_one, Nat.one_ne_zero, Bool.false_eq_true, reduceCtorEq, ne_eq, Nat.add_zero, Nat.reduceBEq, Bool.or_false, Bool.or_true, Bool.false_or, Bool.true_or, or_self, entL, List.flatMap_cons, List.flatMap_nil, List.reduceReplicate, ↓reduceIte, cat_j, lg_0, lg_1, lg_2, lg_3, lg_4, lg_5, lg_6, lg_7, lg_8, lg_9, lg_10, lg_11, lg_12, lg_13, lg_14, lg_15, lg_16, ls_0, ls_1, ls_2, ls_3, ls_4, ls_5, ls_6, ls_7, ls_8, ls_9, ls_10, ls_11, ls_12, ls_13, ls_14, ls_15, ls_16, st_0, st_1, st_2, st_3, st_4, st_5, st_6, st_7, st_8, st_9, st_10, st_11, st_12, st_13, st_14, st_15, h9]
  refine call0 (C_heightOrWall hC hh ?_)
  refine go_ok hJ (fun _ => false) 60 ?_
  simp -implicitDefEqProofs only [E_49, s_aload_n, s_iload_n, s_iconst, s_isub, s_invokevirtual, rM_4_28, iv4_2, hc_50, s_istore_n, s_iadd, (s_getf rF_4_15), ft_4_1, fn_4_1, s_iaload, s_invokestatic, rM_4_32, iv12, s_icmp_ge, s_bipush, s_ireturn, s_goto, i1_0, up_n, ret_b, bI_0, pk_us, pk_un, up_e, up_up, Decidable.not_not, nI_1, Int32.add_zero, Int32.zero_add, vz_0, tn_0, vz_1, tn_1, vz_2, tn_2, vz_3, tn_3, vz_4, tn_4, vz_5, tn_5, vz_6, tn_6, vz_7, tn_7, vz_8, tn_8, vz_9, tn_9, vz_10, tn_10, vz_11, tn_11, vz_12, tn_12, vz_13, tn_13, vz_14, tn_14, vz_15, tn_15, vz_160, tn_160, vz_161, tn_161, vz_162, tn_162, vz_163, tn_163, vz_164, tn_164, vs_0, vs_1, vs_2, vs_3, vs_4, vs_5, run_s, run_e, run_0, true_and, and_true, and_self, or_true, true_or, or_false, false_or, List.length_cons, List.length_nil, Option.toList_some, Option.toList_none, List.cons_append, List.nil_append, isI_t, isJ_t, isA_t, vI_t, nI32_t, isF_t, gF_t, sF_t, isO_t, isP_t, isP0_t, gE_t, sE_t, isR_t, gO_t, sO_t, isS_t, vS_t, isSc_t, nSc_t, pok_i, pok_o, pok_a, pok_0, pok_1, ret_i, ret_0, ret_1, ret_v, clr_i, clr_j, clr_r, clr_n, cat_i, cat_r, kk0, kk1, kk2, eq_self, Nat.reduceEqDiff, Nat.reduceLeDiff, Nat.reduceAdd, Nat.reduceLT, Nat.reduceSub, Nat.reduceMul, forall_const, imp_false, not_true_eq_false, not_false_eq_true, false_imp_iff, Nat.zero_ne_one, Nat.one_ne_zero, Bool.false_eq_true, reduceCtorEq, ne_eq, Nat.add_zero, Nat.reduceBEq, Bool.or_false, Bool.or_true, Bool.false_or, Bool.true_or, or_self, entL, List.flatMap_cons, List.flatMap_nil, List.reduceReplicate, ↓reduceIte, cat_j, lg_0, lg_1, lg_2, lg_3, lg_4, lg_5, lg_6, lg_7, lg_8, lg_9, lg_10, lg_11, lg_12, lg_13, lg_14, lg_15, lg_16, ls_0, ls_1, ls_2, ls_3, ls_4, ls_5, ls_6, ls_7, ls_8, ls_9, ls_10, ls_11, ls_12, ls_13, ls_14, ls_15, ls_16, st_0, st_1, st_2, st_3, st_4, st_5, st_6, st_7, st_8, st_9, st_10, st_11, st_12, st_13, st_14, st_15, h9, h11, nI_clamp (n := c) (by omega), hc1]
  refine ⟨vp_in_nI hc (by decide), fun q => ?_, fun q => ?_⟩
  · rw [if_neg (Int32.not_lt.mpr q)] at hQ
    refine ⟨fun q2 => ?_, fun q2 => ?_⟩
    · rwa [if_neg (Int32.not_lt.mpr q2)] at hQ
    · rwa [if_pos (Int32.not_le.mp q2)] at hQ
  · rwa [if_pos (Int32.not_le.mp q)] at hQ
end C1
