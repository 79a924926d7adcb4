/-! the law: an act -/
theorem z3f : ((3 : Int32) = 0) = False := eq_false (by decide)
theorem z16f : ((16 : Int32) = 0) = False := eq_false (by decide)
theorem z60f : ((60 : Int32) = 0) = False := eq_false (by decide)
theorem z25f : ((25 : Int32) = 0) = False := eq_false (by decide)
theorem z180f : ((180 : Int32) = 0) = False := eq_false (by decide)
theorem z8f : ((8 : Int32) = 0) = False := eq_false (by decide)
theorem z48f : ((48 : Int32) = 0) = False := eq_false (by decide)
theorem z5f : ((5 : Int32) = 0) = False := eq_false (by decide)
theorem z6f : ((6 : Int32) = 0) = False := eq_false (by decide)
theorem z9f : ((9 : Int32) = 0) = False := eq_false (by decide)
theorem z10g : ((10 : Int32) = 0) = False := eq_false (by decide)
theorem z7f : ((7 : Int32) = 0) = False := eq_false (by decide)
theorem z17f : ((17 : Int32) = 0) = False := eq_false (by decide)
/-- what lies in the store, as a number -/
theorem nm_st {y : Yy} {m l : Nat} (hs : ∀ p, p < m → (y 6 p = 0 ↔ l ≤ p)) (hl : l ≤ m) : ∀ n, n ≤ m → nmB (gV y 0 m) n + 2 ^ l = if n ≤ l then 2 ^ l else 2 ^ n
  | 0, _ => by
    rw [if_pos (Nat.zero_le _)]
    exact Nat.zero_add _
  | n + 1, hn => by
    have e := nm_st hs hl n (by omega)
    have h := hs n (by omega)
    unfold nmB
    by_cases q : l ≤ n
    · have g1 : gV y 0 m n = 1 := if_pos ⟨by omega, h.mpr q⟩
      rw [g1, if_neg (by omega), Nat.pow_succ]
      by_cases q2 : n ≤ l
      · obtain rfl : n = l := by omega
        rw [if_pos q2] at e
        omega
      · rw [if_neg q2] at e
        omega
    · have g0 : gV y 0 m n = 0 := if_neg fun w => q (h.mp w.2)
      rw [g0, if_pos (by omega)]
      rw [if_pos (by omega)] at e
      omega
theorem p2_lt {a b : Nat} (h : a < b) : 2 ^ a + 2 ^ a ≤ 2 ^ b := by
  have : 2 ^ (a + 1) ≤ 2 ^ b := Nat.pow_le_pow_right (by decide) h
  rw [Nat.pow_succ] at this
  omega
set_option maxRecDepth 100000 in
theorem lowb : ∀ l, l < 24 → ∀ m, m < 25 → l < m → nI (2 ^ m - 2 ^ l) &&& -nI (2 ^ m - 2 ^ l) = nI (2 ^ l) := by decide +kernel
section S5
variable {G : Gx} {d L s t n m l tt ss c : Nat} {xs : Zz} {w : Wd} {y yp : Yy} {sl : Nat → Yy} {sv : Nat → Int32} {h : Nat → Nat} {cl : Nat → Nat → Nat} {Q : Option Value → Wd → Prop}
theorem st_m (g : GK n y m l tt ss h cl) : l ≤ m ∧ (l < m → ySet y 0 m = nI (2 ^ m - 2 ^ l)) ∧ (¬ l < m → ySet y 0 m = 0) := by
  have m24 := g.ky.1.2.1
  have hl := g.ky.1.2.2.2
  obtain ⟨⟨b, z, R⟩, -⟩ := g
  have hs : ∀ p, p < m → (y 6 p = 0 ↔ l ≤ p) := fun p hp => by
    have k := R.1.1.2.2.1 p hp
    rw [k.1.2.2.2.1]
    exact k.2.2.2.2
  have e := nm_st hs hl m (Nat.le_refl _)
  refine ⟨hl, fun q => ?_, fun q => ?_⟩
  · rw [if_neg (by omega)] at e
    rw [ySet_v m24 m (Nat.le_refl _)]
    refine congrArg nI ?_
    omega
  · rw [if_pos (by omega)] at e
    rw [ySet_v m24 m (Nat.le_refl _), show nmB (gV y 0 m) m = 0 by omega]
    exact nI_0
theorem spot_n (g : GK n y m l tt ss h cl) {k : Nat} (hc : c < 8) (hk : k < h c) : ySp y h (nI (cl c k)) 8 = nI (10 * c + k) ∧ cl c k < m := by
  obtain ⟨⟨b, z, R⟩, -⟩ := g
  obtain ⟨f1, f2, f3, f4⟩ := R.1.1.2.2.2.2.1 c hc k hk
  exact ⟨(R.1.1.spot f2).trans f4, f2⟩
theorem load_w (g : GK n y m l tt ss h cl) (hc : c < 8) (h0 : ¬ h c = 0) : ∃ W v, y 4 (cl c (h c - 1)) = nI W ∧ 1 ≤ W ∧ W ≤ 60 ∧ yLoad y h c (cl c (h c - 1)) 0 = nI v ∧ W ≤ v ∧ v ≤ W + 6 := by
  obtain ⟨⟨b, z, R⟩, -⟩ := g
  obtain ⟨p2, p3⟩ := R.top1 hc h0
  have h4 := (R.1.1.2.1 c hc).2
  obtain ⟨⟨e1, e2, -⟩, ⟨-, ⟨g1, g2⟩, -⟩, -⟩ := R.1.1.2.2.1 _ p2
  obtain ⟨k, hk, ek⟩ := nI_of3 (n := 60) (by decide) (Int32.le_trans (by decide) g1) g2
  have k1 : 1 ≤ k := by
    rw [ek] at g1
    exact (nI_leI (a := 1) (by decide) (by omega)).mp g1
  unfold yLoad
  rw [e2, ek, if_neg (show ¬ (1 : Int32) ≤ 0 by decide), show (1 : Int32) = nI 1 from rfl, pk_sub (a := h c) (b := 1) (by omega), show (2 : Int32) = nI 2 from rfl, pk_mul, nI_add]
  split
  · exact ⟨k, k, rfl, k1, hk, rfl, Nat.le_refl _, by omega⟩
  · split
    · exact ⟨k, k + 2 * (h c - 1), rfl, k1, hk, rfl, by omega, by omega⟩
    · exact ⟨k, k, rfl, k1, hk, rfl, Nat.le_refl _, by omega⟩
abbrev AJ (G : Gx) (d : Nat) (J : Kt) (Q : Option Value → Wd → Prop) : Prop := Clo G 8 false 9 (some .int) d 137 J (fun r n' w' => n' = 137 ∧ Q r w') method_10_code
/-- what an act leaves: nothing, or a state that is good -/
def AQ (L n s t : Nat) (xs : Zz) (y yp : Yy) (sl : Nat → Yy) (sv : Nat → Int32) (Q : Option Value → Wd → Prop) : Prop := (∀ w', LB L xs w' y yp s t sl sv → Q (some (.int 0)) w') ∧ (∀ w' y' m' l' tt' ss' h' cl', LB L xs w' y' y (nS6 s) ((t + 1) % 7) sl sv → GK (n + 1) y' m' l' tt' ss' h' cl' → Q (some (.int 1)) w')
theorem GK.up1 {y' : Yy} (g : GK n y' m l tt ss h cl) : GK (n + 1) y' m l tt ss h cl := g.up (Nat.le_succ _)
-- prizes
theorem act_prize {J : Kt} {X Y : Nat} (hJ : AJ G (d + 8) J Q) (hX : X < 2147483648) (hY : Y < 200000000) (b : LB L xs w y yp s t sl sv) (g : GK n y m l tt ss h cl) (hQ : AQ L n s t xs y yp sl sv Q) {H : Nat} : J 15 [.ref 0, .int (nI X), .int (nI H), .int (nI Y), .null, .null, .null, .null, .null] [] 137 w := by
  have a0 := b.a0
  have m24 := g.ky.1.2.1
  have tail : ∀ W V : Nat, 1 ≤ W → W ≤ 60 → 1 ≤ V → V ≤ 99 → J 48 [.ref 0, .int (nI X), .int (nI H), .int (nI Y), .int (nI W), .int (nI V), .null, .null, .null] [] 137 w := by
    intro W V w1 w60 v1 v99
    have d3 : nI Y / 3 = nI (Y / 3) := dv (d := 3) (by omega) (by decide) (by decide)
    have r3 : nI Y - nI (Y / 3) * 3 = nI (Y % 3) := rm (d := 3) (by omega) (by decide) (by decide)
    have hk : Y % 3 < 3 := Nat.mod_lt _ (by decide)
    generalize hK : Y % 3 = K at hk r3
    have pk : pOk (nI K) (nI W) (nI V) := ⟨⟨nI_pos' (by omega), nI_le (b := 2) (by omega) (by decide)⟩, ⟨nI_le (a := 1) w1 (by omega), nI_le (b := 60) w60 (by decide)⟩, ⟨nI_le (a := 1) v1 (by omega), nI_le (b := 99) v99 (by decide)⟩⟩
    refine go_ok hJ (fun _ => false) 60 ?_
    simp -implicitDefEqProofs only [e_98_48, s_aload_n, e_98_49, s_bipush, e_98_51, s_iconst, e_98_52, s_invokevirtual, rM_8_20, iv4_3, hc_69, e_98_55, s_if_lt, e_98_58, e_98_59, s_goto, e_98_62, e_98_63, s_istore, e_98_65, e_98_66, s_iload_n, e_98_67, e_98_68, s_irem, e_98_69, s_iload, e_98_71, e_98_73, rM_8_52, iv4_4, hc_64, i1_0, up_n, ret_b, bI_0, pk_us, pk_un, up_e, up_up, Decidable.not_not, nI_1, Int32.add_zero, Int32.zero_add, vz_0, tn_0, vz_1, tn_1, vz_2, tn_2, vz_3, tn_3, vz_4, tn_4, vz_5, tn_5, vz_6, tn_6, vz_7, tn_7, vz_8, tn_8, vz_9, tn_9, vz_10, tn_10, vz_11, tn_11, vz_12, tn_12, vz_13, tn_13, vz_14, tn_14, vz_15, tn_15, vz_160, tn_160, vz_161, tn_161, vz_162, tn_162, vz_163, tn_163, vz_164, tn_164, vs_0, vs_1, vs_2, vs_3, vs_4, vs_5, run_s, run_e, run_0, true_and, and_true, and_self, or_true, true_or, or_false, false_or, List.length_cons, List.length_nil, Option.toList_some, Option.toList_none, List.cons_append, List.nil_append, isI_t, isJ_t, isA_t, vI_t, nI32_t, isF_t, gF_t, sF_t, isO_t, isP_t, isP0_t, gE_t, sE_t, isR_t, gO_t, sO_t, isS_t, vS_t, isSc_t, nSc_t, pok_i, pok_o, pok_a, pok_0, pok_1, ret_i, ret_0, ret_1, ret_v, clr_i, clr_j, clr_r, clr_n, cat_i, cat_r, kk0, kk1, kk2, eq_self, Nat.reduceEqDiff, Nat.reduceLeDiff, Nat.reduceAdd, Nat.reduceLT, Nat.reduceSub, Nat.reduceMul, forall_const, imp_false, not_true_eq_false, not_false_eq_true, false_imp_iff, Nat.zero_ne_one, Nat.one_ne_zero, Bool.false_eq_true, reduceCtorEq, ne_eq, Nat.add_zero, Nat.reduceBEq, Bool.or_false, Bool.or_true, Bool.false_or, Bool.true_or, or_self, entL, List.flatMap_cons, List.flatMap_nil, List.reduceReplicate, ↓reduceIte, cat_j, lg_0, lg_1, lg_2, lg_3, lg_4, lg_5, lg_6, lg_7, lg_8, lg_9, lg_10, lg_11, lg_12, lg_13, lg_14, lg_15, lg_16, ls_0, ls_1, ls_2, ls_3, ls_4, ls_5, ls_6, ls_7, ls_8, ls_9, ls_10, ls_11, ls_12, ls_13, ls_14, ls_15, ls_16, st_0, st_1, st_2, st_3, st_4, st_5, st_6, st_7, st_8, st_9, st_10, st_11, st_12, st_13, st_14, st_15, a0]
    refine call0 (X_ofS b g (k := 23) (j := 0) (by decide) (by decide) rfl ?_)
    by_cases m3 : 23 < m
    · have v0 : (aOf y m h 23 0 < 0) = False := by
        unfold aOf
        rw [if_pos m3]
        exact eq_false (kind_0 g m3)
      refine go_ok hJ (fun _ => false) 60 ?_
      simp -implicitDefEqProofs only [e_98_52, s_invokevirtual, rM_8_20, iv4_3, hc_69, e_98_55, s_if_lt, e_98_58, s_iconst, e_98_59, s_goto, e_98_62, e_98_63, s_istore, e_98_65, s_aload_n, e_98_66, s_iload_n, e_98_67, e_98_68, s_irem, e_98_69, s_iload, e_98_71, e_98_73, rM_8_52, iv4_4, hc_64, i1_0, up_n, ret_b, bI_0, pk_us, pk_un, up_e, up_up, Decidable.not_not, nI_1, Int32.add_zero, Int32.zero_add, vz_0, tn_0, vz_1, tn_1, vz_2, tn_2, vz_3, tn_3, vz_4, tn_4, vz_5, tn_5, vz_6, tn_6, vz_7, tn_7, vz_8, tn_8, vz_9, tn_9, vz_10, tn_10, vz_11, tn_11, vz_12, tn_12, vz_13, tn_13, vz_14, tn_14, vz_15, tn_15, vz_160, tn_160, vz_161, tn_161, vz_162, tn_162, vz_163, tn_163, vz_164, tn_164, vs_0, vs_1, vs_2, vs_3, vs_4, vs_5, run_s, run_e, run_0, true_and, and_true, and_self, or_true, true_or, or_false, false_or, List.length_cons, List.length_nil, Option.toList_some, Option.toList_none, List.cons_append, List.nil_append, isI_t, isJ_t, isA_t, vI_t, nI32_t, isF_t, gF_t, sF_t, isO_t, isP_t, isP0_t, gE_t, sE_t, isR_t, gO_t, sO_t, isS_t, vS_t, isSc_t, nSc_t, pok_i, pok_o, pok_a, pok_0, pok_1, ret_i, ret_0, ret_1, ret_v, clr_i, clr_j, clr_r, clr_n, cat_i, cat_r, kk0, kk1, kk2, eq_self, Nat.reduceEqDiff, Nat.reduceLeDiff, Nat.reduceAdd, Nat.reduceLT, Nat.reduceSub, Nat.reduceMul, forall_const, imp_false, not_true_eq_false, not_false_eq_true, false_imp_iff, Nat.zero_ne_one, Nat.one_ne_zero, Bool.false_eq_true, reduceCtorEq, ne_eq, Nat.add_zero, Nat.reduceBEq, Bool.or_false, Bool.or_true, Bool.false_or, Bool.true_or, or_self, entL, List.flatMap_cons, List.flatMap_nil, List.reduceReplicate, ↓reduceIte, cat_j, lg_0, lg_1, lg_2, lg_3, lg_4, lg_5, lg_6, lg_7, lg_8, lg_9, lg_10, lg_11, lg_12, lg_13, lg_14, lg_15, lg_16, ls_0, ls_1, ls_2, ls_3, ls_4, ls_5, ls_6, ls_7, ls_8, ls_9, ls_10, ls_11, ls_12, ls_13, ls_14, ls_15, ls_16, st_0, st_1, st_2, st_3, st_4, st_5, st_6, st_7, st_8, st_9, st_10, st_11, st_12, st_13, st_14, st_15, a0, v0, z3f, d3, r3]
      refine call0 (X_prize b g (fun z => absurd pk z) (fun _ _ w1 b1 => ?_) (fun _ z => absurd z (by omega)))
      refine go_ok hJ (fun _ => false) 60 ?_
      simp -implicitDefEqProofs only [e_98_73, s_invokevirtual, rM_8_52, iv4_4, hc_64, e_98_76, s_istore, e_98_78, s_iload, e_98_80, s_if_eq, e_98_83, e_98_85, s_bipush, e_98_87, s_icmp_ne, e_98_90, s_iconst, e_98_91, s_goto, e_98_94, e_98_96, e_98_99, s_aload_n, e_98_100, e_98_102, e_98_103, rM_8_20, iv4_3, hc_69, e_98_106, s_iload_n, e_98_107, e_98_108, s_irem, e_98_109, e_98_112, e_98_113, e_98_115, e_98_116, e_98_119, e_98_121, e_98_124, e_98_125, e_98_127, e_98_128, e_98_131, e_98_133, e_98_136, e_98_137, e_98_139, e_98_140, e_98_143, s_if_ne, e_98_146, e_98_148, e_98_151, e_98_152, e_98_154, e_98_155, s_isub, e_98_156, e_98_157, e_98_160, s_if_lt, e_98_163, e_98_164, e_98_167, e_98_169, s_ireturn, i1_0, up_n, ret_b, bI_0, pk_us, pk_un, up_e, up_up, Decidable.not_not, nI_1, Int32.add_zero, Int32.zero_add, vz_0, tn_0, vz_1, tn_1, vz_2, tn_2, vz_3, tn_3, vz_4, tn_4, vz_5, tn_5, vz_6, tn_6, vz_7, tn_7, vz_8, tn_8, vz_9, tn_9, vz_10, tn_10, vz_11, tn_11, vz_12, tn_12, vz_13, tn_13, vz_14, tn_14, vz_15, tn_15, vz_160, tn_160, vz_161, tn_161, vz_162, tn_162, vz_163, tn_163, vz_164, tn_164, vs_0, vs_1, vs_2, vs_3, vs_4, vs_5, run_s, run_e, run_0, true_and, and_true, and_self, or_true, true_or, or_false, false_or, List.length_cons, List.length_nil, Option.toList_some, Option.toList_none, List.cons_append, List.nil_append, isI_t, isJ_t, isA_t, vI_t, nI32_t, isF_t, gF_t, sF_t, isO_t, isP_t, isP0_t, gE_t, sE_t, isR_t, gO_t, sO_t, isS_t, vS_t, isSc_t, nSc_t, pok_i, pok_o, pok_a, pok_0, pok_1, ret_i, ret_0, ret_1, ret_v, clr_i, clr_j, clr_r, clr_n, cat_i, cat_r, kk0, kk1, kk2, eq_self, Nat.reduceEqDiff, Nat.reduceLeDiff, Nat.reduceAdd, Nat.reduceLT, Nat.reduceSub, Nat.reduceMul, forall_const, imp_false, not_true_eq_false, not_false_eq_true, false_imp_iff, Nat.zero_ne_one, Nat.one_ne_zero, Bool.false_eq_true, reduceCtorEq, ne_eq, Nat.add_zero, Nat.reduceBEq, Bool.or_false, Bool.or_true, Bool.false_or, Bool.true_or, or_self, entL, List.flatMap_cons, List.flatMap_nil, List.reduceReplicate, ↓reduceIte, cat_j, lg_0, lg_1, lg_2, lg_3, lg_4, lg_5, lg_6, lg_7, lg_8, lg_9, lg_10, lg_11, lg_12, lg_13, lg_14, lg_15, lg_16, ls_0, ls_1, ls_2, ls_3, ls_4, ls_5, ls_6, ls_7, ls_8, ls_9, ls_10, ls_11, ls_12, ls_13, ls_14, ls_15, ls_16, st_0, st_1, st_2, st_3, st_4, st_5, st_6, st_7, st_8, st_9, st_10, st_11, st_12, st_13, st_14, st_15, i1_0]
      exact hQ.1 w1 b1
    · have v0 : (aOf y m h 23 0 < 0) = True := by
        unfold aOf
        rw [if_neg m3]
        exact eq_true (by decide)
      refine go_ok hJ (fun _ => false) 60 ?_
      simp -implicitDefEqProofs only [e_98_52, s_invokevirtual, rM_8_20, iv4_3, hc_69, e_98_55, s_if_lt, e_98_58, s_iconst, e_98_59, s_goto, e_98_62, e_98_63, s_istore, e_98_65, s_aload_n, e_98_66, s_iload_n, e_98_67, e_98_68, s_irem, e_98_69, s_iload, e_98_71, e_98_73, rM_8_52, iv4_4, hc_64, i1_0, up_n, ret_b, bI_0, pk_us, pk_un, up_e, up_up, Decidable.not_not, nI_1, Int32.add_zero, Int32.zero_add, vz_0, tn_0, vz_1, tn_1, vz_2, tn_2, vz_3, tn_3, vz_4, tn_4, vz_5, tn_5, vz_6, tn_6, vz_7, tn_7, vz_8, tn_8, vz_9, tn_9, vz_10, tn_10, vz_11, tn_11, vz_12, tn_12, vz_13, tn_13, vz_14, tn_14, vz_15, tn_15, vz_160, tn_160, vz_161, tn_161, vz_162, tn_162, vz_163, tn_163, vz_164, tn_164, vs_0, vs_1, vs_2, vs_3, vs_4, vs_5, run_s, run_e, run_0, true_and, and_true, and_self, or_true, true_or, or_false, false_or, List.length_cons, List.length_nil, Option.toList_some, Option.toList_none, List.cons_append, List.nil_append, isI_t, isJ_t, isA_t, vI_t, nI32_t, isF_t, gF_t, sF_t, isO_t, isP_t, isP0_t, gE_t, sE_t, isR_t, gO_t, sO_t, isS_t, vS_t, isSc_t, nSc_t, pok_i, pok_o, pok_a, pok_0, pok_1, ret_i, ret_0, ret_1, ret_v, clr_i, clr_j, clr_r, clr_n, cat_i, cat_r, kk0, kk1, kk2, eq_self, Nat.reduceEqDiff, Nat.reduceLeDiff, Nat.reduceAdd, Nat.reduceLT, Nat.reduceSub, Nat.reduceMul, forall_const, imp_false, not_true_eq_false, not_false_eq_true, false_imp_iff, Nat.zero_ne_one, Nat.one_ne_zero, Bool.false_eq_true, reduceCtorEq, ne_eq, Nat.add_zero, Nat.reduceBEq, Bool.or_false, Bool.or_true, Bool.false_or, Bool.true_or, or_self, entL, List.flatMap_cons, List.flatMap_nil, List.reduceReplicate, ↓reduceIte, cat_j, lg_0, lg_1, lg_2, lg_3, lg_4, lg_5, lg_6, lg_7, lg_8, lg_9, lg_10, lg_11, lg_12, lg_13, lg_14, lg_15, lg_16, ls_0, ls_1, ls_2, ls_3, ls_4, ls_5, ls_6, ls_7, ls_8, ls_9, ls_10, ls_11, ls_12, ls_13, ls_14, ls_15, ls_16, st_0, st_1, st_2, st_3, st_4, st_5, st_6, st_7, st_8, st_9, st_10, st_11, st_12, st_13, st_14, st_15, a0, v0, z3f, d3, r3]
      refine call0 (X_prize b g (fun z => absurd pk z) (fun _ z => absurd z (by omega)) (fun _ hm w1 b1 => ?_))
      have g1 := (g.come hm pk).up1
      have a0 := b1.a0
      have of0 : aOf (yCome y m (nI K) (nI W) (nI V)) (m + 1) h m 0 = nI K := (if_pos (Nat.lt_succ_self m)).trans pk_us
      have of1 : aOf (yCome y m (nI K) (nI W) (nI V)) (m + 1) h m 1 = nI W := (if_pos (Nat.lt_succ_self m)).trans pk_us
      have of2 : aOf (yCome y m (nI K) (nI W) (nI V)) (m + 1) h m 2 = nI V := (if_pos (Nat.lt_succ_self m)).trans pk_us
      have of3 : aOf (yCome y m (nI K) (nI W) (nI V)) (m + 1) h m 3 = 0 := by
        obtain ⟨⟨b, z, R⟩, -⟩ := g
        exact (if_pos (Nat.lt_succ_self m)).trans (R.1.1.2.2.2.1 m (Nat.le_refl _) hm).1
      refine go_ok hJ (fun _ => false) 60 ?_
      simp -implicitDefEqProofs only [e_98_73, s_invokevirtual, rM_8_52, iv4_4, hc_64, e_98_76, s_istore, e_98_78, s_iload, e_98_80, s_if_eq, e_98_83, e_98_85, s_bipush, e_98_87, s_icmp_ne, e_98_90, s_iconst, e_98_91, s_goto, e_98_94, e_98_96, e_98_99, s_aload_n, e_98_100, e_98_102, e_98_103, rM_8_20, iv4_3, hc_69, i1_0, up_n, ret_b, bI_0, pk_us, pk_un, up_e, up_up, Decidable.not_not, nI_1, Int32.add_zero, Int32.zero_add, vz_0, tn_0, vz_1, tn_1, vz_2, tn_2, vz_3, tn_3, vz_4, tn_4, vz_5, tn_5, vz_6, tn_6, vz_7, tn_7, vz_8, tn_8, vz_9, tn_9, vz_10, tn_10, vz_11, tn_11, vz_12, tn_12, vz_13, tn_13, vz_14, tn_14, vz_15, tn_15, vz_160, tn_160, vz_161, tn_161, vz_162, tn_162, vz_163, tn_163, vz_164, tn_164, vs_0, vs_1, vs_2, vs_3, vs_4, vs_5, run_s, run_e, run_0, true_and, and_true, and_self, or_true, true_or, or_false, false_or, List.length_cons, List.length_nil, Option.toList_some, Option.toList_none, List.cons_append, List.nil_append, isI_t, isJ_t, isA_t, vI_t, nI32_t, isF_t, gF_t, sF_t, isO_t, isP_t, isP0_t, gE_t, sE_t, isR_t, gO_t, sO_t, isS_t, vS_t, isSc_t, nSc_t, pok_i, pok_o, pok_a, pok_0, pok_1, ret_i, ret_0, ret_1, ret_v, clr_i, clr_j, clr_r, clr_n, cat_i, cat_r, kk0, kk1, kk2, eq_self, Nat.reduceEqDiff, Nat.reduceLeDiff, Nat.reduceAdd, Nat.reduceLT, Nat.reduceSub, Nat.reduceMul, forall_const, imp_false, not_true_eq_false, not_false_eq_true, false_imp_iff, Nat.zero_ne_one, Nat.one_ne_zero, Bool.false_eq_true, reduceCtorEq, ne_eq, Nat.add_zero, Nat.reduceBEq, Bool.or_false, Bool.or_true, Bool.false_or, Bool.true_or, or_self, entL, List.flatMap_cons, List.flatMap_nil, List.reduceReplicate, ↓reduceIte, cat_j, lg_0, lg_1, lg_2, lg_3, lg_4, lg_5, lg_6, lg_7, lg_8, lg_9, lg_10, lg_11, lg_12, lg_13, lg_14, lg_15, lg_16, ls_0, ls_1, ls_2, ls_3, ls_4, ls_5, ls_6, ls_7, ls_8, ls_9, ls_10, ls_11, ls_12, ls_13, ls_14, ls_15, ls_16, st_0, st_1, st_2, st_3, st_4, st_5, st_6, st_7, st_8, st_9, st_10, st_11, st_12, st_13, st_14, st_15, a0, i1_0]
      refine call0 (X_ofS b1 g1 (k := m) (j := 0) (by omega) (by decide) rfl ?_)
      rw [of0]
      refine go_ok hJ (fun p => p == 167) 60 ?_
      simp -implicitDefEqProofs only [e_98_103, s_invokevirtual, rM_8_20, iv4_3, hc_69, e_98_106, s_iload_n, e_98_107, s_iconst, e_98_108, s_irem, e_98_109, s_icmp_ne, e_98_112, s_aload_n, e_98_113, s_iload, e_98_115, e_98_116, i1_0, up_n, ret_b, bI_0, pk_us, pk_un, up_e, up_up, Decidable.not_not, nI_1, Int32.add_zero, Int32.zero_add, vz_0, tn_0, vz_1, tn_1, vz_2, tn_2, vz_3, tn_3, vz_4, tn_4, vz_5, tn_5, vz_6, tn_6, vz_7, tn_7, vz_8, tn_8, vz_9, tn_9, vz_10, tn_10, vz_11, tn_11, vz_12, tn_12, vz_13, tn_13, vz_14, tn_14, vz_15, tn_15, vz_160, tn_160, vz_161, tn_161, vz_162, tn_162, vz_163, tn_163, vz_164, tn_164, vs_0, vs_1, vs_2, vs_3, vs_4, vs_5, run_s, run_e, run_0, true_and, and_true, and_self, or_true, true_or, or_false, false_or, List.length_cons, List.length_nil, Option.toList_some, Option.toList_none, List.cons_append, List.nil_append, isI_t, isJ_t, isA_t, vI_t, nI32_t, isF_t, gF_t, sF_t, isO_t, isP_t, isP0_t, gE_t, sE_t, isR_t, gO_t, sO_t, isS_t, vS_t, isSc_t, nSc_t, pok_i, pok_o, pok_a, pok_0, pok_1, ret_i, ret_0, ret_1, ret_v, clr_i, clr_j, clr_r, clr_n, cat_i, cat_r, kk0, kk1, kk2, eq_self, Nat.reduceEqDiff, Nat.reduceLeDiff, Nat.reduceAdd, Nat.reduceLT, Nat.reduceSub, Nat.reduceMul, forall_const, imp_false, not_true_eq_false, not_false_eq_true, false_imp_iff, Nat.zero_ne_one, Nat.one_ne_zero, Bool.false_eq_true, reduceCtorEq, ne_eq, Nat.add_zero, Nat.reduceBEq, Bool.or_false, Bool.or_true, Bool.false_or, Bool.true_or, or_self, entL, List.flatMap_cons, List.flatMap_nil, List.reduceReplicate, ↓reduceIte, cat_j, lg_0, lg_1, lg_2, lg_3, lg_4, lg_5, lg_6, lg_7, lg_8, lg_9, lg_10, lg_11, lg_12, lg_13, lg_14, lg_15, lg_16, ls_0, ls_1, ls_2, ls_3, ls_4, ls_5, ls_6, ls_7, ls_8, ls_9, ls_10, ls_11, ls_12, ls_13, ls_14, ls_15, ls_16, st_0, st_1, st_2, st_3, st_4, st_5, st_6, st_7, st_8, st_9, st_10, st_11, st_12, st_13, st_14, st_15, a0, z3f, d3, r3]
      refine call0 (X_ofS b1 g1 (k := m) (j := 1) (by omega) (by decide) rfl ?_)
      rw [of1]
      refine go_ok hJ (fun p => p == 167) 60 ?_
      simp -implicitDefEqProofs only [e_98_112, s_aload_n, e_98_113, s_iload, e_98_115, s_iconst, e_98_116, s_invokevirtual, rM_8_20, iv4_3, hc_69, e_98_119, e_98_121, s_icmp_ne, e_98_124, e_98_125, e_98_127, e_98_128, i1_0, up_n, ret_b, bI_0, pk_us, pk_un, up_e, up_up, Decidable.not_not, nI_1, Int32.add_zero, Int32.zero_add, vz_0, tn_0, vz_1, tn_1, vz_2, tn_2, vz_3, tn_3, vz_4, tn_4, vz_5, tn_5, vz_6, tn_6, vz_7, tn_7, vz_8, tn_8, vz_9, tn_9, vz_10, tn_10, vz_11, tn_11, vz_12, tn_12, vz_13, tn_13, vz_14, tn_14, vz_15, tn_15, vz_160, tn_160, vz_161, tn_161, vz_162, tn_162, vz_163, tn_163, vz_164, tn_164, vs_0, vs_1, vs_2, vs_3, vs_4, vs_5, run_s, run_e, run_0, true_and, and_true, and_self, or_true, true_or, or_false, false_or, List.length_cons, List.length_nil, Option.toList_some, Option.toList_none, List.cons_append, List.nil_append, isI_t, isJ_t, isA_t, vI_t, nI32_t, isF_t, gF_t, sF_t, isO_t, isP_t, isP0_t, gE_t, sE_t, isR_t, gO_t, sO_t, isS_t, vS_t, isSc_t, nSc_t, pok_i, pok_o, pok_a, pok_0, pok_1, ret_i, ret_0, ret_1, ret_v, clr_i, clr_j, clr_r, clr_n, cat_i, cat_r, kk0, kk1, kk2, eq_self, Nat.reduceEqDiff, Nat.reduceLeDiff, Nat.reduceAdd, Nat.reduceLT, Nat.reduceSub, Nat.reduceMul, forall_const, imp_false, not_true_eq_false, not_false_eq_true, false_imp_iff, Nat.zero_ne_one, Nat.one_ne_zero, Bool.false_eq_true, reduceCtorEq, ne_eq, Nat.add_zero, Nat.reduceBEq, Bool.or_false, Bool.or_true, Bool.false_or, Bool.true_or, or_self, entL, List.flatMap_cons, List.flatMap_nil, List.reduceReplicate, ↓reduceIte, cat_j, lg_0, lg_1, lg_2, lg_3, lg_4, lg_5, lg_6, lg_7, lg_8, lg_9, lg_10, lg_11, lg_12, lg_13, lg_14, lg_15, lg_16, ls_0, ls_1, ls_2, ls_3, ls_4, ls_5, ls_6, ls_7, ls_8, ls_9, ls_10, ls_11, ls_12, ls_13, ls_14, ls_15, ls_16, st_0, st_1, st_2, st_3, st_4, st_5, st_6, st_7, st_8, st_9, st_10, st_11, st_12, st_13, st_14, st_15, a0]
      refine call0 (X_ofS b1 g1 (k := m) (j := 2) (by omega) (by decide) rfl ?_)
      rw [of2]
      refine go_ok hJ (fun p => p == 167) 60 ?_
      simp -implicitDefEqProofs only [e_98_124, s_aload_n, e_98_125, s_iload, e_98_127, s_iconst, e_98_128, s_invokevirtual, rM_8_20, iv4_3, hc_69, e_98_131, e_98_133, s_icmp_ne, e_98_136, e_98_137, e_98_139, e_98_140, i1_0, up_n, ret_b, bI_0, pk_us, pk_un, up_e, up_up, Decidable.not_not, nI_1, Int32.add_zero, Int32.zero_add, vz_0, tn_0, vz_1, tn_1, vz_2, tn_2, vz_3, tn_3, vz_4, tn_4, vz_5, tn_5, vz_6, tn_6, vz_7, tn_7, vz_8, tn_8, vz_9, tn_9, vz_10, tn_10, vz_11, tn_11, vz_12, tn_12, vz_13, tn_13, vz_14, tn_14, vz_15, tn_15, vz_160, tn_160, vz_161, tn_161, vz_162, tn_162, vz_163, tn_163, vz_164, tn_164, vs_0, vs_1, vs_2, vs_3, vs_4, vs_5, run_s, run_e, run_0, true_and, and_true, and_self, or_true, true_or, or_false, false_or, List.length_cons, List.length_nil, Option.toList_some, Option.toList_none, List.cons_append, List.nil_append, isI_t, isJ_t, isA_t, vI_t, nI32_t, isF_t, gF_t, sF_t, isO_t, isP_t, isP0_t, gE_t, sE_t, isR_t, gO_t, sO_t, isS_t, vS_t, isSc_t, nSc_t, pok_i, pok_o, pok_a, pok_0, pok_1, ret_i, ret_0, ret_1, ret_v, clr_i, clr_j, clr_r, clr_n, cat_i, cat_r, kk0, kk1, kk2, eq_self, Nat.reduceEqDiff, Nat.reduceLeDiff, Nat.reduceAdd, Nat.reduceLT, Nat.reduceSub, Nat.reduceMul, forall_const, imp_false, not_true_eq_false, not_false_eq_true, false_imp_iff, Nat.zero_ne_one, Nat.one_ne_zero, Bool.false_eq_true, reduceCtorEq, ne_eq, Nat.add_zero, Nat.reduceBEq, Bool.or_false, Bool.or_true, Bool.false_or, Bool.true_or, or_self, entL, List.flatMap_cons, List.flatMap_nil, List.reduceReplicate, ↓reduceIte, cat_j, lg_0, lg_1, lg_2, lg_3, lg_4, lg_5, lg_6, lg_7, lg_8, lg_9, lg_10, lg_11, lg_12, lg_13, lg_14, lg_15, lg_16, ls_0, ls_1, ls_2, ls_3, ls_4, ls_5, ls_6, ls_7, ls_8, ls_9, ls_10, ls_11, ls_12, ls_13, ls_14, ls_15, ls_16, st_0, st_1, st_2, st_3, st_4, st_5, st_6, st_7, st_8, st_9, st_10, st_11, st_12, st_13, st_14, st_15, a0]
      refine call0 (X_ofS b1 g1 (k := m) (j := 3) (by omega) (by decide) rfl ?_)
      rw [of3]
      by_cases m0 : m = 0
      · have mz : (nI m = 0) = True := eq_true (by rw [m0]; exact nI_0)
        refine go_ok hJ (fun p => p == 167) 60 ?_
        simp -implicitDefEqProofs only [e_98_139, s_iconst, e_98_140, s_invokevirtual, rM_8_20, iv4_3, hc_69, e_98_143, s_if_ne, e_98_146, s_iload, e_98_148, s_if_eq, e_98_151, s_aload_n, e_98_152, e_98_154, e_98_155, s_isub, e_98_156, e_98_157, e_98_160, s_if_lt, e_98_163, e_98_164, s_goto, e_98_167, s_bipush, e_98_169, s_ireturn, i1_0, up_n, ret_b, bI_0, pk_us, pk_un, up_e, up_up, Decidable.not_not, nI_1, Int32.add_zero, Int32.zero_add, vz_0, tn_0, vz_1, tn_1, vz_2, tn_2, vz_3, tn_3, vz_4, tn_4, vz_5, tn_5, vz_6, tn_6, vz_7, tn_7, vz_8, tn_8, vz_9, tn_9, vz_10, tn_10, vz_11, tn_11, vz_12, tn_12, vz_13, tn_13, vz_14, tn_14, vz_15, tn_15, vz_160, tn_160, vz_161, tn_161, vz_162, tn_162, vz_163, tn_163, vz_164, tn_164, vs_0, vs_1, vs_2, vs_3, vs_4, vs_5, run_s, run_e, run_0, true_and, and_true, and_self, or_true, true_or, or_false, false_or, List.length_cons, List.length_nil, Option.toList_some, Option.toList_none, List.cons_append, List.nil_append, isI_t, isJ_t, isA_t, vI_t, nI32_t, isF_t, gF_t, sF_t, isO_t, isP_t, isP0_t, gE_t, sE_t, isR_t, gO_t, sO_t, isS_t, vS_t, isSc_t, nSc_t, pok_i, pok_o, pok_a, pok_0, pok_1, ret_i, ret_0, ret_1, ret_v, clr_i, clr_j, clr_r, clr_n, cat_i, cat_r, kk0, kk1, kk2, eq_self, Nat.reduceEqDiff, Nat.reduceLeDiff, Nat.reduceAdd, Nat.reduceLT, Nat.reduceSub, Nat.reduceMul, forall_const, imp_false, not_true_eq_false, not_false_eq_true, false_imp_iff, Nat.zero_ne_one, Nat.one_ne_zero, Bool.false_eq_true, reduceCtorEq, ne_eq, Nat.add_zero, Nat.reduceBEq, Bool.or_false, Bool.or_true, Bool.false_or, Bool.true_or, or_self, entL, List.flatMap_cons, List.flatMap_nil, List.reduceReplicate, ↓reduceIte, cat_j, lg_0, lg_1, lg_2, lg_3, lg_4, lg_5, lg_6, lg_7, lg_8, lg_9, lg_10, lg_11, lg_12, lg_13, lg_14, lg_15, lg_16, ls_0, ls_1, ls_2, ls_3, ls_4, ls_5, ls_6, ls_7, ls_8, ls_9, ls_10, ls_11, ls_12, ls_13, ls_14, ls_15, ls_16, st_0, st_1, st_2, st_3, st_4, st_5, st_6, st_7, st_8, st_9, st_10, st_11, st_12, st_13, st_14, st_15, mz]
        exact hQ.2 _ _ _ _ _ _ _ _ b1 g1
      · have mz : (nI m = 0) = False := eq_false (fun z => m0 ((nI_eq (b := 0) (by omega) (by decide)).mp z))
        have ms : nI m - 1 = nI (m - 1) := pk_sub (b := 1) (by omega)
        have v1 : (aOf (yCome y m (nI K) (nI W) (nI V)) (m + 1) h (m - 1) 0 < 0) = False := by
          unfold aOf
          rw [if_pos (by omega)]
          exact eq_false (kind_0 g1 (by omega))
        refine go_ok hJ (fun p => p == 167) 60 ?_
        simp -implicitDefEqProofs only [e_98_139, s_iconst, e_98_140, s_invokevirtual, rM_8_20, iv4_3, hc_69, e_98_143, s_if_ne, e_98_146, s_iload, e_98_148, s_if_eq, e_98_151, s_aload_n, e_98_152, e_98_154, e_98_155, s_isub, e_98_156, e_98_157, e_98_160, s_if_lt, e_98_163, e_98_164, s_goto, e_98_167, s_bipush, e_98_169, s_ireturn, i1_0, up_n, ret_b, bI_0, pk_us, pk_un, up_e, up_up, Decidable.not_not, nI_1, Int32.add_zero, Int32.zero_add, vz_0, tn_0, vz_1, tn_1, vz_2, tn_2, vz_3, tn_3, vz_4, tn_4, vz_5, tn_5, vz_6, tn_6, vz_7, tn_7, vz_8, tn_8, vz_9, tn_9, vz_10, tn_10, vz_11, tn_11, vz_12, tn_12, vz_13, tn_13, vz_14, tn_14, vz_15, tn_15, vz_160, tn_160, vz_161, tn_161, vz_162, tn_162, vz_163, tn_163, vz_164, tn_164, vs_0, vs_1, vs_2, vs_3, vs_4, vs_5, run_s, run_e, run_0, true_and, and_true, and_self, or_true, true_or, or_false, false_or, List.length_cons, List.length_nil, Option.toList_some, Option.toList_none, List.cons_append, List.nil_append, isI_t, isJ_t, isA_t, vI_t, nI32_t, isF_t, gF_t, sF_t, isO_t, isP_t, isP0_t, gE_t, sE_t, isR_t, gO_t, sO_t, isS_t, vS_t, isSc_t, nSc_t, pok_i, pok_o, pok_a, pok_0, pok_1, ret_i, ret_0, ret_1, ret_v, clr_i, clr_j, clr_r, clr_n, cat_i, cat_r, kk0, kk1, kk2, eq_self, Nat.reduceEqDiff, Nat.reduceLeDiff, Nat.reduceAdd, Nat.reduceLT, Nat.reduceSub, Nat.reduceMul, forall_const, imp_false, not_true_eq_false, not_false_eq_true, false_imp_iff, Nat.zero_ne_one, Nat.one_ne_zero, Bool.false_eq_true, reduceCtorEq, ne_eq, Nat.add_zero, Nat.reduceBEq, Bool.or_false, Bool.or_true, Bool.false_or, Bool.true_or, or_self, entL, List.flatMap_cons, List.flatMap_nil, List.reduceReplicate, ↓reduceIte, cat_j, lg_0, lg_1, lg_2, lg_3, lg_4, lg_5, lg_6, lg_7, lg_8, lg_9, lg_10, lg_11, lg_12, lg_13, lg_14, lg_15, lg_16, ls_0, ls_1, ls_2, ls_3, ls_4, ls_5, ls_6, ls_7, ls_8, ls_9, ls_10, ls_11, ls_12, ls_13, ls_14, ls_15, ls_16, st_0, st_1, st_2, st_3, st_4, st_5, st_6, st_7, st_8, st_9, st_10, st_11, st_12, st_13, st_14, st_15, a0, mz, ms]
        refine call0 (X_ofS b1 g1 (k := m - 1) (j := 0) (by omega) (by decide) rfl ?_)
        refine go_ok hJ (fun p => p == 167) 60 ?_
        simp -implicitDefEqProofs only [e_98_146, s_iload, e_98_148, s_if_eq, e_98_151, s_aload_n, e_98_152, e_98_154, s_iconst, e_98_155, s_isub, e_98_156, e_98_157, s_invokevirtual, rM_8_20, iv4_3, hc_69, e_98_160, s_if_lt, e_98_163, e_98_164, s_goto, e_98_167, s_bipush, e_98_169, s_ireturn, i1_0, up_n, ret_b, bI_0, pk_us, pk_un, up_e, up_up, Decidable.not_not, nI_1, Int32.add_zero, Int32.zero_add, vz_0, tn_0, vz_1, tn_1, vz_2, tn_2, vz_3, tn_3, vz_4, tn_4, vz_5, tn_5, vz_6, tn_6, vz_7, tn_7, vz_8, tn_8, vz_9, tn_9, vz_10, tn_10, vz_11, tn_11, vz_12, tn_12, vz_13, tn_13, vz_14, tn_14, vz_15, tn_15, vz_160, tn_160, vz_161, tn_161, vz_162, tn_162, vz_163, tn_163, vz_164, tn_164, vs_0, vs_1, vs_2, vs_3, vs_4, vs_5, run_s, run_e, run_0, true_and, and_true, and_self, or_true, true_or, or_false, false_or, List.length_cons, List.length_nil, Option.toList_some, Option.toList_none, List.cons_append, List.nil_append, isI_t, isJ_t, isA_t, vI_t, nI32_t, isF_t, gF_t, sF_t, isO_t, isP_t, isP0_t, gE_t, sE_t, isR_t, gO_t, sO_t, isS_t, vS_t, isSc_t, nSc_t, pok_i, pok_o, pok_a, pok_0, pok_1, ret_i, ret_0, ret_1, ret_v, clr_i, clr_j, clr_r, clr_n, cat_i, cat_r, kk0, kk1, kk2, eq_self, Nat.reduceEqDiff, Nat.reduceLeDiff, Nat.reduceAdd, Nat.reduceLT, Nat.reduceSub, Nat.reduceMul, forall_const, imp_false, not_true_eq_false, not_false_eq_true, false_imp_iff, Nat.zero_ne_one, Nat.one_ne_zero, Bool.false_eq_true, reduceCtorEq, ne_eq, Nat.add_zero, Nat.reduceBEq, Bool.or_false, Bool.or_true, Bool.false_or, Bool.true_or, or_self, entL, List.flatMap_cons, List.flatMap_nil, List.reduceReplicate, ↓reduceIte, cat_j, lg_0, lg_1, lg_2, lg_3, lg_4, lg_5, lg_6, lg_7, lg_8, lg_9, lg_10, lg_11, lg_12, lg_13, lg_14, lg_15, lg_16, ls_0, ls_1, ls_2, ls_3, ls_4, ls_5, ls_6, ls_7, ls_8, ls_9, ls_10, ls_11, ls_12, ls_13, ls_14, ls_15, ls_16, st_0, st_1, st_2, st_3, st_4, st_5, st_6, st_7, st_8, st_9, st_10, st_11, st_12, st_13, st_14, st_15, v1]
        exact hQ.2 _ _ _ _ _ _ _ _ b1 g1
  have d3 : nI Y / 3 = nI (Y / 3) := dv (d := 3) (by omega) (by decide) (by decide)
  have d2 : nI Y / 2 = nI (Y / 2) := dv (d := 2) (by omega) (by decide) (by decide)
  have r2 : nI Y - nI (Y / 2) * 2 = nI (Y % 2) := rm (d := 2) (by omega) (by decide) (by decide)
  have d180 : nI Y / 180 = nI (Y / 180) := dv (d := 180) (by omega) (by decide) (by decide)
  have l3 : Y / 3 ≤ Y := Nat.div_le_self _ _
  have l180 : Y / 180 ≤ Y := Nat.div_le_self _ _
  have e60 : nI (Y / 3) / 60 = nI (Y / 3 / 60) := dv (d := 60) (by omega) (by decide) (by decide)
  have r60 : nI (Y / 3) - nI (Y / 3 / 60) * 60 = nI (Y / 3 % 60) := rm (d := 60) (by omega) (by decide) (by decide)
  have e25 : nI (Y / 3) / 25 = nI (Y / 3 / 25) := dv (d := 25) (by omega) (by decide) (by decide)
  have r25 : nI (Y / 3) - nI (Y / 3 / 25) * 25 = nI (Y / 3 % 25) := rm (d := 25) (by omega) (by decide) (by decide)
  have e99 : nI (Y / 180) / 99 = nI (Y / 180 / 99) := dv (d := 99) (by omega) (by decide) (by decide)
  have r99 : nI (Y / 180) - nI (Y / 180 / 99) * 99 = nI (Y / 180 % 99) := rm (d := 99) (by omega) (by decide) (by decide)
  have a60 : 1 + nI (Y / 3 % 60) = nI (1 + Y / 3 % 60) := nI_add 1 _
  have a25 : 1 + nI (Y / 3 % 25) = nI (1 + Y / 3 % 25) := nI_add 1 _
  have a99 : 1 + nI (Y / 180 % 99) = nI (1 + Y / 180 % 99) := nI_add 1 _
  have t60 := tail (1 + Y / 3 % 60) (1 + Y / 180 % 99) (by omega) (by omega) (by omega) (by omega)
  have t25 := tail (1 + Y / 3 % 25) (1 + Y / 180 % 99) (by omega) (by omega) (by omega) (by omega)
  rcases (show Y % 2 = 0 ∨ Y % 2 = 1 by omega) with q | q
  · have q0 : (nI (Y % 2) = 0) = True := eq_true (by rw [q]; exact nI_0)
    refine go_ok hJ (fun p => p == 48) 60 ?_
    simp -implicitDefEqProofs only [e_98_15, s_iconst, e_98_16, s_iload_n, e_98_17, e_98_18, s_idiv, e_98_19, e_98_20, e_98_21, s_irem, e_98_22, s_if_ne, e_98_25, s_bipush, e_98_27, s_goto, e_98_30, e_98_32, e_98_33, s_iadd, e_98_34, s_istore, e_98_36, e_98_37, e_98_38, s_sipush, e_98_41, e_98_42, e_98_44, e_98_45, e_98_46, i1_0, up_n, ret_b, bI_0, pk_us, pk_un, up_e, up_up, Decidable.not_not, nI_1, Int32.add_zero, Int32.zero_add, vz_0, tn_0, vz_1, tn_1, vz_2, tn_2, vz_3, tn_3, vz_4, tn_4, vz_5, tn_5, vz_6, tn_6, vz_7, tn_7, vz_8, tn_8, vz_9, tn_9, vz_10, tn_10, vz_11, tn_11, vz_12, tn_12, vz_13, tn_13, vz_14, tn_14, vz_15, tn_15, vz_160, tn_160, vz_161, tn_161, vz_162, tn_162, vz_163, tn_163, vz_164, tn_164, vs_0, vs_1, vs_2, vs_3, vs_4, vs_5, run_s, run_e, run_0, true_and, and_true, and_self, or_true, true_or, or_false, false_or, List.length_cons, List.length_nil, Option.toList_some, Option.toList_none, List.cons_append, List.nil_append, isI_t, isJ_t, isA_t, vI_t, nI32_t, isF_t, gF_t, sF_t, isO_t, isP_t, isP0_t, gE_t, sE_t, isR_t, gO_t, sO_t, isS_t, vS_t, isSc_t, nSc_t, pok_i, pok_o, pok_a, pok_0, pok_1, ret_i, ret_0, ret_1, ret_v, clr_i, clr_j, clr_r, clr_n, cat_i, cat_r, kk0, kk1, kk2, eq_self, Nat.reduceEqDiff, Nat.reduceLeDiff, Nat.reduceAdd, Nat.reduceLT, Nat.reduceSub, Nat.reduceMul, forall_const, imp_false, not_true_eq_false, not_false_eq_true, false_imp_iff, Nat.zero_ne_one, Nat.one_ne_zero, Bool.false_eq_true, reduceCtorEq, ne_eq, Nat.add_zero, Nat.reduceBEq, Bool.or_false, Bool.or_true, Bool.false_or, Bool.true_or, or_self, entL, List.flatMap_cons, List.flatMap_nil, List.reduceReplicate, ↓reduceIte, cat_j, lg_0, lg_1, lg_2, lg_3, lg_4, lg_5, lg_6, lg_7, lg_8, lg_9, lg_10, lg_11, lg_12, lg_13, lg_14, lg_15, lg_16, ls_0, ls_1, ls_2, ls_3, ls_4, ls_5, ls_6, ls_7, ls_8, ls_9, ls_10, ls_11, ls_12, ls_13, ls_14, ls_15, ls_16, st_0, st_1, st_2, st_3, st_4, st_5, st_6, st_7, st_8, st_9, st_10, st_11, st_12, st_13, st_14, st_15, z3f, z2f, z60f, z25f, z180f, z99f, d3, d2, r2, q0, d180, e60, r60, e99, r99, a60, a99]
    exact t60
  · have q0 : (nI (Y % 2) = 0) = False := eq_false (by rw [q]; decide)
    refine go_ok hJ (fun p => p == 48) 60 ?_
    simp -implicitDefEqProofs only [e_98_15, s_iconst, e_98_16, s_iload_n, e_98_17, e_98_18, s_idiv, e_98_19, e_98_20, e_98_21, s_irem, e_98_22, s_if_ne, e_98_25, s_bipush, e_98_27, s_goto, e_98_30, e_98_32, e_98_33, s_iadd, e_98_34, s_istore, e_98_36, e_98_37, e_98_38, s_sipush, e_98_41, e_98_42, e_98_44, e_98_45, e_98_46, i1_0, up_n, ret_b, bI_0, pk_us, pk_un, up_e, up_up, Decidable.not_not, nI_1, Int32.add_zero, Int32.zero_add, vz_0, tn_0, vz_1, tn_1, vz_2, tn_2, vz_3, tn_3, vz_4, tn_4, vz_5, tn_5, vz_6, tn_6, vz_7, tn_7, vz_8, tn_8, vz_9, tn_9, vz_10, tn_10, vz_11, tn_11, vz_12, tn_12, vz_13, tn_13, vz_14, tn_14, vz_15, tn_15, vz_160, tn_160, vz_161, tn_161, vz_162, tn_162, vz_163, tn_163, vz_164, tn_164, vs_0, vs_1, vs_2, vs_3, vs_4, vs_5, run_s, run_e, run_0, true_and, and_true, and_self, or_true, true_or, or_false, false_or, List.length_cons, List.length_nil, Option.toList_some, Option.toList_none, List.cons_append, List.nil_append, isI_t, isJ_t, isA_t, vI_t, nI32_t, isF_t, gF_t, sF_t, isO_t, isP_t, isP0_t, gE_t, sE_t, isR_t, gO_t, sO_t, isS_t, vS_t, isSc_t, nSc_t, pok_i, pok_o, pok_a, pok_0, pok_1, ret_i, ret_0, ret_1, ret_v, clr_i, clr_j, clr_r, clr_n, cat_i, cat_r, kk0, kk1, kk2, eq_self, Nat.reduceEqDiff, Nat.reduceLeDiff, Nat.reduceAdd, Nat.reduceLT, Nat.reduceSub, Nat.reduceMul, forall_const, imp_false, not_true_eq_false, not_false_eq_true, false_imp_iff, Nat.zero_ne_one, Nat.one_ne_zero, Bool.false_eq_true, reduceCtorEq, ne_eq, Nat.add_zero, Nat.reduceBEq, Bool.or_false, Bool.or_true, Bool.false_or, Bool.true_or, or_self, entL, List.flatMap_cons, List.flatMap_nil, List.reduceReplicate, ↓reduceIte, cat_j, lg_0, lg_1, lg_2, lg_3, lg_4, lg_5, lg_6, lg_7, lg_8, lg_9, lg_10, lg_11, lg_12, lg_13, lg_14, lg_15, lg_16, ls_0, ls_1, ls_2, ls_3, ls_4, ls_5, ls_6, ls_7, ls_8, ls_9, ls_10, ls_11, ls_12, ls_13, ls_14, ls_15, ls_16, st_0, st_1, st_2, st_3, st_4, st_5, st_6, st_7, st_8, st_9, st_10, st_11, st_12, st_13, st_14, st_15, z3f, z2f, z60f, z25f, z180f, z99f, d3, d2, r2, q0, d180, e25, r25, e99, r99, a25, a99]
    exact t25
end S5
