/-! the pad is read the same -/
def cR (pd : Nat → Int32) (t : Nat) (x : Nat × Bool) (a b c : Int32) : Od :=
  if hr pd t x.1 = 97 then ((97, (raR pd t x).1, b, c), (raR pd t x).2)
  else if hr pd t x.1 = 99 then ((99, (rcR pd t x).1, b, c), (rcR pd t x).2)
  else if hr pd t x.1 = 110 then ((110, (rz1 pd t x).1, (rz2 pd t x).1, (rz3 pd t x).1), (rz3 pd t x).2)
  else if hr pd t x.1 = 112 then ((112, (ry1 pd t x).1, (ry2 pd t x).1, c), (ry2 pd t x).2)
  else ((hr pd t x.1, a, b, c), x.1, true)
section R10
variable {pd told : Nat → Int32} {t s n : Nat} {a b c : Int32} {f : Bool}
theorem dgR_f : dgR pd t (s, true) = (0, s, true) := if_pos (Or.inl rfl)
theorem exR_f : exR pd t c (s, true) = (s, true) := if_pos (Or.inl rfl)
theorem nbR_f : nbR pd t (s, true) = (0, s, true) := by
  unfold nbR
  rw [dgR_f]
  exact if_neg fun w => Int32.lt_irrefl w.1
theorem z6 : (0 : Int32) ≠ -6 := by decide
theorem or_f {α : Type} {p : Prop} {i : Decidable p} {x : α} (h : ¬ p) : ((@decide p i, x).1 = false) := decide_eq_false h
theorem ftF {P : Prop} (h : false = true) : P := by cases h
theorem kdR_f : (kdR pd t (s, true)).2 = (s, true) := by
  unfold kdR
  split
  · exact (exR_f : exR pd t 112 (s, true) = (s, true))
  · split
    · exact (exR_f : exR pd t 98 (s, true) = (s, true))
    · split
      · exact (exR_f : exR pd t 120 (s, true) = (s, true))
      · rfl
theorem hr_d : (48 ≤ hr pd t s ∧ hr pd t s ≤ 57) ↔ (s < t ∧ 48 ≤ pd s ∧ pd s ≤ 57) := by
  unfold hr
  by_cases q : s < t
  · rw [if_pos q]
    exact ⟨fun w => ⟨q, w⟩, fun w => w.2⟩
  · rw [if_neg q]
    exact ⟨fun w => absurd w.1 (by decide), fun w => absurd w.1 q⟩
theorem hr_c (hc : c ≠ 0) : hr pd t s = c ↔ (s < t ∧ c ≤ pd s ∧ pd s ≤ c) := by
  unfold hr
  by_cases q : s < t
  · rw [if_pos q]
    exact ⟨fun w => ⟨q, by rw [w]; exact Int32.le_refl _, by rw [w]; exact Int32.le_refl _⟩, fun w => Int32.le_antisymm w.2.2 w.2.1⟩
  · rw [if_neg q]
    exact ⟨fun w => absurd w.symm hc, fun w => absurd w.1 q⟩
theorem dv {v : Int32} (h : 48 ≤ v ∧ v ≤ 57) : ∃ j, j ≤ 9 ∧ v - 48 = nI j := by
  obtain ⟨j, hj, rfl⟩ := nI_of3 (n := 57) (by decide) (Int32.le_trans (by decide) h.1) h.2
  have := (nI_leI (a := 48) (by decide) (by omega)).mp h.1
  exact ⟨j - 48, by omega, pk_sub (b := 48) this⟩
theorem dgR_t (h : s < t ∧ 48 ≤ pd s ∧ pd s ≤ 57) : dgR pd t (s, false) = (pd s - 48, s + 1, false) := by
  have e : hr pd t s = pd s := if_pos h.1
  unfold dgR
  rw [if_neg (fun w => w.elim (fun w => ftF w) fun w => w (hr_d.mpr h))]
  show (hr pd t s - 48, _) = _
  rw [e]
theorem dgR_n (h : ¬ (s < t ∧ 48 ≤ pd s ∧ pd s ≤ 57)) : dgR pd t (s, false) = (0, s, true) := if_pos (Or.inr fun w => h (hr_d.mp w))
theorem exR_t (hc : c ≠ 0) (h : hr pd t s = c) : exR pd t c (s, false) = (s + 1, false) := if_neg fun w => w.elim (fun w => ftF w) fun w => w h
theorem exR_n (h : ¬ hr pd t s = c) : exR pd t c (s, false) = (s, true) := if_pos (Or.inr h)
theorem dg_1 (pd : Nat → Int32) (t s : Nat) : (∃ v, nNum pd t s 1 = (v, s + 1) ∧ v ≠ -6 ∧ dgR pd t (s, false) = (v, s + 1, false)) ∨ (nNum pd t s 1 = (-6, s) ∧ dgR pd t (s, false) = (0, s, true)) := by
  by_cases q : s < t ∧ 48 ≤ pd s ∧ pd s ≤ 57
  · obtain ⟨j, hj, e⟩ := dv q.2
    refine Or.inl ⟨pd s - 48, ?_, by rw [e]; exact nI_m6 (by omega), dgR_t q⟩
    unfold nNum
    rw [if_pos q, if_neg (fun w => absurd w.2.1 (by decide))]
  · exact Or.inr ⟨if_neg q, dgR_n q⟩
theorem nb_2 (pd : Nat → Int32) (t s : Nat) : (∃ v r, nNum pd t s 2 = (v, r) ∧ v ≠ -6 ∧ s < r ∧ nbR pd t (s, false) = (v, r, false)) ∨ (nNum pd t s 2 = (-6, s) ∧ nbR pd t (s, false) = (0, s, true)) := by
  by_cases q : s < t ∧ 48 ≤ pd s ∧ pd s ≤ 57
  · obtain ⟨j, hj, e⟩ := dv q.2
    have ed := dgR_t q
    have en : nbR pd t (s, false) = if 0 < pd s - 48 ∧ (48 ≤ hr pd t (s + 1) ∧ hr pd t (s + 1) ≤ 57) then (10 * (pd s - 48) + (dgR pd t (s + 1, false)).1, (dgR pd t (s + 1, false)).2) else (pd s - 48, s + 1, false) := by
      unfold nbR
      rw [ed]
    rw [en]
    unfold nNum
    rw [if_pos q]
    by_cases q2 : 0 < pd s - 48 ∧ (s + 1 < t ∧ 48 ≤ pd (s + 1) ∧ pd (s + 1) ≤ 57)
    · obtain ⟨j2, hj2, e2⟩ := dv q2.2.2
      rw [if_pos ⟨q2.1, by decide, q2.2⟩, if_pos ⟨q2.1, hr_d.mpr q2.2⟩, dgR_t q2.2]
      have ea : 10 * (pd s - 48) + pd (s + 1) - 48 = 10 * (pd s - 48) + (pd (s + 1) - 48) := by
        rw [Int32.sub_eq_add_neg, Int32.add_assoc, ← Int32.sub_eq_add_neg (a := pd (s + 1))]
      rw [ea]
      refine Or.inl ⟨_, _, rfl, ?_, by omega, rfl⟩
      rw [e, e2, n10, nI_add]
      exact nI_m6 (by omega)
    · rw [if_neg (fun w => q2 ⟨w.1, w.2.2⟩), if_neg (fun w => q2 ⟨w.1, hr_d.mp w.2⟩)]
      exact Or.inl ⟨_, _, rfl, by rw [e]; exact nI_m6 (by omega), by omega, rfl⟩
  · refine Or.inr ⟨if_neg q, ?_⟩
    unfold nbR
    rw [dgR_n q]
    exact if_neg fun w => Int32.lt_irrefl w.1
theorem kd_1 (pd : Nat → Int32) (t s : Nat) : (∃ v, nKd pd t s = (v, s + 1) ∧ v ≠ -6 ∧ kdR pd t (s, false) = (v, s + 1, false)) ∨ (nKd pd t s = (-6, s) ∧ kdR pd t (s, false) = (0, s, true)) := by
  have c1 := hr_c (pd := pd) (t := t) (s := s) (c := 112) (by decide)
  have c2 := hr_c (pd := pd) (t := t) (s := s) (c := 98) (by decide)
  have c3 := hr_c (pd := pd) (t := t) (s := s) (c := 120) (by decide)
  unfold nKd kdR
  by_cases q1 : hr pd t s = 112
  · rw [if_pos (c1.mp q1), if_pos q1, exR_t (by decide) q1]
    exact Or.inl ⟨0, rfl, by decide, rfl⟩
  · rw [if_neg (fun w => q1 (c1.mpr w)), if_neg q1]
    by_cases q2 : hr pd t s = 98
    · rw [if_pos (c2.mp q2), if_pos q2, exR_t (by decide) q2]
      exact Or.inl ⟨1, rfl, by decide, rfl⟩
    · rw [if_neg (fun w => q2 (c2.mpr w)), if_neg q2]
      by_cases q3 : hr pd t s = 120
      · rw [if_pos (c3.mp q3), if_pos q3, exR_t (by decide) q3]
        exact Or.inl ⟨2, rfl, by decide, rfl⟩
      · rw [if_neg (fun w => q3 (c3.mpr w)), if_neg q3]
        exact Or.inr ⟨rfl, rfl⟩
/-- with a fault behind it nothing is read -/
theorem cR_f : (cR pd t (s, true) a b c).2 = (s, true) := by
  unfold cR
  split
  · show (dgR pd t (exR pd t 97 (s, true))).2 = _
    rw [exR_f, dgR_f]
  · split
    · show (nbR pd t (exR pd t 99 (s, true))).2 = _
      rw [exR_f, nbR_f]
    · split
      · have e1 : (rz1 pd t (s, true)).2 = (s, true) := by
          show (kdR pd t (exR pd t 110 (s, true))).2 = _
          rw [exR_f, kdR_f]
        have e2 : (rz2 pd t (s, true)).2 = (s, true) := by
          show (nbR pd t (rz1 pd t (s, true)).2).2 = _
          rw [e1, nbR_f]
        show (nbR pd t (exR pd t 61 (rz2 pd t (s, true)).2)).2 = _
        rw [e2, exR_f, nbR_f]
      · split
        · have e1 : ry1 pd t (s, true) = (0, s, true) := by
            show dgR pd t (exR pd t 112 (s, true)) = _
            rw [exR_f, dgR_f]
          unfold ry2
          rw [e1]
          split
          · rw [exR_f, dgR_f]
          · rfl
        · rfl
def foR (pd : Nat → Int32) (t s : Nat) (a b c : Int32) : Prop :=
  (cR pd t (s, false) a b c).1.1 = oL pd t s ∧ gdL (oL pd t s) ∧ (cR pd t (s, false) a b c).1.2.1 = (oF pd t s).1 ∧ ((oL pd t s = 112 ∨ oL pd t s = 110) → (cR pd t (s, false) a b c).1.2.2.1 = (oS pd t s).1) ∧ (oL pd t s = 110 → (cR pd t (s, false) a b c).1.2.2.2 = (oT pd t s).1)
theorem rd1_g (h : gdL (oL pd t s)) : rd1 pd t s told n = (decide ((oF pd t s).1 ≠ -6 ∧ (oS pd t s).1 ≠ -6 ∧ (oT pd t s).1 ≠ -6), (oT pd t s).2, oTd pd told t s n, n + 1) := if_pos h
theorem cR_u : cR pd t (s, false) a b c = if oL pd t s = 97 then ((97, (raR pd t (s, false)).1, b, c), (raR pd t (s, false)).2)
  else if oL pd t s = 99 then ((99, (rcR pd t (s, false)).1, b, c), (rcR pd t (s, false)).2)
  else if oL pd t s = 110 then ((110, (rz1 pd t (s, false)).1, (rz2 pd t (s, false)).1, (rz3 pd t (s, false)).1), (rz3 pd t (s, false)).2)
  else if oL pd t s = 112 then ((112, (ry1 pd t (s, false)).1, (ry2 pd t (s, false)).1, c), (ry2 pd t (s, false)).2)
  else ((oL pd t s, a, b, c), s, true) := rfl
/-- one order -/
theorem ord (pd told : Nat → Int32) (t s n : Nat) (a b c : Int32) : ((rd1 pd t s told n).1 = true ∧ (cR pd t (s, false) a b c).2 = ((rd1 pd t s told n).2.1, false) ∧ (rd1 pd t s told n).2.2.1 = oTd pd told t s n ∧ (rd1 pd t s told n).2.2.2 = n + 1 ∧ s + 2 ≤ (rd1 pd t s told n).2.1 ∧ foR pd t s a b c) ∨ ((rd1 pd t s told n).1 = false ∧ (cR pd t (s, false) a b c).2 = ((rd1 pd t s told n).2.1, true)) := by
  have eh : hr pd t s = oL pd t s := rfl
  by_cases h97 : oL pd t s = 97
  · have gd : gdL (oL pd t s) := Or.inr (Or.inr (Or.inr h97))
    have ec : cR pd t (s, false) a b c = ((97, (raR pd t (s, false)).1, b, c), (raR pd t (s, false)).2) := if_pos (eh.trans h97)
    have er : raR pd t (s, false) = dgR pd t (s + 1, false) := by
      unfold raR
      rw [exR_t (by decide) (eh.trans h97)]
    have eF : oF pd t s = nNum pd t (s + 1) 1 := by
      unfold oF
      rw [h97, if_neg (by decide), if_neg (by decide)]
    have eS : oS pd t s = (0, (oF pd t s).2) := by
      unfold oS
      rw [h97, if_neg (fun w => absurd w.2.1 (by decide)), if_neg (fun w => absurd w.2 (by decide))]
    have eT : oT pd t s = (0, (oF pd t s).2) := by
      unfold oT
      rw [h97, if_neg (fun w => absurd w.2 (by decide)), eS]
    rw [rd1_g gd]
    unfold foR
    rw [ec, er, eS, eT, eF]
    rcases dg_1 pd t (s + 1) with ⟨v, e1, e2, e3⟩ | ⟨e1, e3⟩
    · rw [e1, e3]
      exact Or.inl ⟨decide_eq_true ⟨e2, z6, z6⟩, rfl, rfl, rfl, by show s + 2 ≤ s + 1 + 1; omega, h97.symm, gd, rfl, fun w => by rcases w with w | w <;> (rw [h97] at w; exact absurd w (by decide)), fun w => by rw [h97] at w; exact absurd w (by decide)⟩
    · rw [e1, e3]
      exact Or.inr ⟨or_f (fun w => w.1 rfl), rfl⟩
  · by_cases h99 : oL pd t s = 99
    · have gd : gdL (oL pd t s) := Or.inl h99
      have ec : cR pd t (s, false) a b c = ((99, (rcR pd t (s, false)).1, b, c), (rcR pd t (s, false)).2) := by
        rw [cR_u, if_neg h97, if_pos h99]
      have er : rcR pd t (s, false) = nbR pd t (s + 1, false) := by
        unfold rcR
        rw [exR_t (by decide) (eh.trans h99)]
      have eF : oF pd t s = nNum pd t (s + 1) 2 := by
        unfold oF
        rw [h99, if_neg (by decide), if_pos rfl]
      have eS : oS pd t s = (0, (oF pd t s).2) := by
        unfold oS
        rw [h99, if_neg (fun w => absurd w.2.1 (by decide)), if_neg (fun w => absurd w.2 (by decide))]
      have eT : oT pd t s = (0, (oF pd t s).2) := by
        unfold oT
        rw [h99, if_neg (fun w => absurd w.2 (by decide)), eS]
      rw [rd1_g gd]
      unfold foR
      rw [ec, er, eS, eT, eF]
      rcases nb_2 pd t (s + 1) with ⟨v, r, e1, e2, e4, e3⟩ | ⟨e1, e3⟩
      · rw [e1, e3]
        exact Or.inl ⟨decide_eq_true ⟨e2, z6, z6⟩, rfl, rfl, rfl, e4, h99.symm, gd, rfl, fun w => by rcases w with w | w <;> (rw [h99] at w; exact absurd w (by decide)), fun w => by rw [h99] at w; exact absurd w (by decide)⟩
      · rw [e1, e3]
        exact Or.inr ⟨or_f (fun w => w.1 rfl), rfl⟩
    · by_cases h110 : oL pd t s = 110
      · have gd : gdL (oL pd t s) := Or.inr (Or.inr (Or.inl h110))
        have ec : cR pd t (s, false) a b c = ((110, (rz1 pd t (s, false)).1, (rz2 pd t (s, false)).1, (rz3 pd t (s, false)).1), (rz3 pd t (s, false)).2) := by
          rw [cR_u, if_neg h97, if_neg h99, if_pos h110]
        have er : rz1 pd t (s, false) = kdR pd t (s + 1, false) := by
          unfold rz1
          rw [exR_t (by decide) (eh.trans h110)]
        have eF : oF pd t s = nKd pd t (s + 1) := by
          unfold oF
          rw [h110, if_pos rfl]
        have eS : oS pd t s = if (oF pd t s).1 ≠ -6 then nNum pd t (oF pd t s).2 2 else (0, (oF pd t s).2) := by
          unfold oS
          rw [h110, if_neg (fun w => absurd w.2.1 (by decide))]
          by_cases w : (oF pd t s).1 ≠ -6
          · rw [if_pos ⟨w, rfl⟩, if_pos w]
          · rw [if_neg (fun x => w x.1), if_neg w]
        rw [rd1_g gd]
        unfold foR
        rw [ec]
        have e22 : rz2 pd t (s, false) = nbR pd t (rz1 pd t (s, false)).2 := rfl
        have e33 : rz3 pd t (s, false) = nbR pd t (exR pd t 61 (rz2 pd t (s, false)).2) := rfl
        rcases kd_1 pd t (s + 1) with ⟨v, e1, e2, e3⟩ | ⟨e1, e3⟩
        · rw [e1] at eF
          rw [e3] at er
          rw [er] at e22
          rw [eF, if_pos e2] at eS
          have eT : oT pd t s = if (oS pd t s).1 ≠ -6 ∧ ((oS pd t s).2 < t ∧ 61 ≤ pd (oS pd t s).2 ∧ pd (oS pd t s).2 ≤ 61) then nNum pd t ((oS pd t s).2 + 1) 2 else (-6, (oS pd t s).2) := by
            unfold oT
            rw [h110, eF, if_pos ⟨e2, rfl⟩]
          rcases nb_2 pd t (s + 1 + 1) with ⟨g, r, f1, f2, f4, f3⟩ | ⟨f1, f3⟩
          · have eS2 : oS pd t s = (g, r) := eS.trans f1
            have e22' : rz2 pd t (s, false) = (g, r, false) := e22.trans f3
            rw [e22'] at e33
            rw [eS2] at eT
            by_cases q : hr pd t r = 61
            · rw [show exR pd t 61 (g, r, false).2 = (r + 1, false) from exR_t (by decide) q] at e33
              rw [if_pos ⟨f2, (hr_c (by decide)).mp q⟩] at eT
              rcases nb_2 pd t (r + 1) with ⟨v2, r2, k1, k2, k4, k3⟩ | ⟨k1, k3⟩
              · have eT2 : oT pd t s = (v2, r2) := eT.trans k1
                have e33' : rz3 pd t (s, false) = (v2, r2, false) := e33.trans k3
                rw [eF, eS2, eT2, er, e22', e33']
                exact Or.inl ⟨decide_eq_true ⟨e2, f2, k2⟩, rfl, rfl, rfl, by show s + 2 ≤ r2; omega, h110.symm, gd, rfl, fun _ => rfl, fun _ => rfl⟩
              · have eT2 : oT pd t s = (-6, r + 1) := eT.trans k1
                have e33' : rz3 pd t (s, false) = (0, r + 1, true) := e33.trans k3
                rw [eF, eS2, eT2, er, e22', e33']
                exact Or.inr ⟨decide_eq_false fun w => w.2.2 rfl, rfl⟩
            · rw [show exR pd t 61 (g, r, false).2 = (r, true) from exR_n q, nbR_f] at e33
              rw [if_neg (fun w => q ((hr_c (by decide)).mpr w.2))] at eT
              rw [eF, eS2, eT, er, e22', e33]
              exact Or.inr ⟨decide_eq_false fun w => w.2.2 rfl, rfl⟩
          · have eS2 : oS pd t s = (-6, s + 1 + 1) := eS.trans f1
            have e22' : rz2 pd t (s, false) = (0, s + 1 + 1, true) := e22.trans f3
            rw [e22', show exR pd t 61 ((0 : Int32), s + 1 + 1, true).2 = (s + 1 + 1, true) from exR_f, nbR_f] at e33
            rw [eS2, if_neg (fun w => w.1 rfl)] at eT
            rw [eF, eS2, eT, er, e22', e33]
            exact Or.inr ⟨decide_eq_false fun w => w.2.1 rfl, rfl⟩
        · rw [e1] at eF
          rw [e3] at er
          have e22' : rz2 pd t (s, false) = (0, s + 1, true) := by
            rw [e22, er]
            exact nbR_f
          rw [e22', show exR pd t 61 ((0 : Int32), s + 1, true).2 = (s + 1, true) from exR_f, nbR_f] at e33
          rw [eF, if_neg (fun w => w rfl)] at eS
          have eT : oT pd t s = (0, (oS pd t s).2) := by
            unfold oT
            rw [h110, eF, if_neg (fun w => w.1 rfl)]
          rw [eS] at eT
          rw [eF, eS, eT, er, e22', e33]
          exact Or.inr ⟨or_f (fun w => w.1 rfl), rfl⟩
      · by_cases h112 : oL pd t s = 112
        · have gd : gdL (oL pd t s) := Or.inr (Or.inl h112)
          have ec : cR pd t (s, false) a b c = ((112, (ry1 pd t (s, false)).1, (ry2 pd t (s, false)).1, c), (ry2 pd t (s, false)).2) := by
            rw [cR_u, if_neg h97, if_neg h99, if_neg h110, if_pos h112]
          have er : ry1 pd t (s, false) = dgR pd t (s + 1, false) := by
            unfold ry1
            rw [exR_t (by decide) (eh.trans h112)]
          have eF : oF pd t s = nNum pd t (s + 1) 1 := by
            unfold oF
            rw [h112, if_neg (by decide), if_neg (by decide)]
          have eT : oT pd t s = (0, (oS pd t s).2) := by
            unfold oT
            rw [h112, if_neg (fun w => absurd w.2 (by decide))]
          have eS : oS pd t s = if (oF pd t s).1 ≠ -6 ∧ ((oF pd t s).2 < t ∧ 47 ≤ pd (oF pd t s).2 ∧ pd (oF pd t s).2 ≤ 47) then nNum pd t ((oF pd t s).2 + 1) 1 else (0, (oF pd t s).2) := by
            unfold oS
            rw [h112]
            by_cases w : (oF pd t s).1 ≠ -6 ∧ ((oF pd t s).2 < t ∧ 47 ≤ pd (oF pd t s).2 ∧ pd (oF pd t s).2 ≤ 47)
            · rw [if_pos ⟨w.1, rfl, w.2⟩, if_pos w]
            · rw [if_neg (fun x => w ⟨x.1, x.2.2⟩), if_neg w, if_neg (fun x => absurd x.2 (by decide))]
          have e22 : ry2 pd t (s, false) = if hr pd t (ry1 pd t (s, false)).2.1 = 47 then dgR pd t (exR pd t 47 (ry1 pd t (s, false)).2) else (0, (ry1 pd t (s, false)).2) := rfl
          rw [rd1_g gd]
          unfold foR
          rw [ec]
          rcases dg_1 pd t (s + 1) with ⟨v, e1, e2, e3⟩ | ⟨e1, e3⟩
          · rw [e1] at eF
            rw [e3] at er
            rw [er] at e22
            rw [eF] at eS
            by_cases q : hr pd t (s + 1 + 1) = 47
            · rw [if_pos q, show exR pd t 47 (v, s + 1 + 1, false).2 = (s + 1 + 1 + 1, false) from exR_t (by decide) q] at e22
              rw [if_pos ⟨e2, (hr_c (by decide)).mp q⟩] at eS
              rcases dg_1 pd t (s + 1 + 1 + 1) with ⟨v2, k1, k2, k3⟩ | ⟨k1, k3⟩
              · have eS2 : oS pd t s = (v2, s + 1 + 1 + 1 + 1) := eS.trans k1
                have e22' : ry2 pd t (s, false) = (v2, s + 1 + 1 + 1 + 1, false) := e22.trans k3
                rw [eF, eT, eS2, er, e22']
                exact Or.inl ⟨decide_eq_true ⟨e2, k2, z6⟩, rfl, rfl, rfl, by show s + 2 ≤ s + 1 + 1 + 1 + 1; omega, h112.symm, gd, rfl, fun _ => rfl, fun w => by rw [h112] at w; exact absurd w (by decide)⟩
              · have eS2 : oS pd t s = (-6, s + 1 + 1 + 1) := eS.trans k1
                have e22' : ry2 pd t (s, false) = (0, s + 1 + 1 + 1, true) := e22.trans k3
                rw [eF, eT, eS2, er, e22']
                exact Or.inr ⟨decide_eq_false fun w => w.2.1 rfl, rfl⟩
            · rw [if_neg q] at e22
              rw [if_neg (fun w => q ((hr_c (by decide)).mpr w.2))] at eS
              rw [eF, eT, eS, er, e22]
              exact Or.inl ⟨decide_eq_true ⟨e2, z6, z6⟩, rfl, rfl, rfl, by show s + 2 ≤ s + 1 + 1; omega, h112.symm, gd, rfl, fun _ => rfl, fun w => by rw [h112] at w; exact absurd w (by decide)⟩
          · rw [e1] at eF
            rw [e3] at er
            rw [er] at e22
            rw [eF, if_neg (fun w => w.1 rfl)] at eS
            have e22' : ry2 pd t (s, false) = (0, s + 1, true) := by
              rw [e22]
              split
              · rw [exR_f, dgR_f]
              · rfl
            rw [eF, eT, eS, er, e22']
            exact Or.inr ⟨or_f (fun w => w.1 rfl), rfl⟩
        · have ng : ¬ (oL pd t s = 99 ∨ oL pd t s = 112 ∨ oL pd t s = 110 ∨ oL pd t s = 97) := fun w => w.elim h99 fun w => w.elim h112 fun w => w.elim h110 h97
          have e1 : rd1 pd t s told n = (false, s, told, n) := if_neg ng
          have ec : cR pd t (s, false) a b c = ((oL pd t s, a, b, c), s, true) := by
            rw [cR_u, if_neg h97, if_neg h99, if_neg h110, if_neg h112]
          rw [e1, ec]
          exact Or.inr ⟨rfl, rfl⟩
end R10
