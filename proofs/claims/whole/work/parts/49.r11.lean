/-! the pad is read the same: all its orders -/
def foT (pd : Nat → Int32) (t : Nat) (told : Nat → Int32) (ps : Nat → Nat) (j : Nat) : Prop :=
  (∀ a b c, (nxR pd t (ps j, false) a b c).2 = (ps (j + 1), false) ∧ (nxR pd t (ps j, false) a b c).1.1 = told (4 * j) ∧ (nxR pd t (ps j, false) a b c).1.2.1 = told (4 * j + 1) ∧ ((told (4 * j) = 112 ∨ told (4 * j) = 110) → (nxR pd t (ps j, false) a b c).1.2.2.1 = told (4 * j + 2)) ∧ (told (4 * j) = 110 → (nxR pd t (ps j, false) a b c).1.2.2.2 = told (4 * j + 3))) ∧ gdL (told (4 * j))
def IvS (pd : Nat → Int32) (t : Nat) (told : Nat → Int32) (n s : Nat) : Prop := ∃ ps : Nat → Nat, ps 0 = 0 ∧ ps n = s ∧ ∀ j, j < n → foT pd t told ps j
section R11
variable {pd told : Nat → Int32} {t s n : Nat} {a b c : Int32}
theorem nxR_0 : nxR pd t (0, false) a b c = cR pd t (0, false) a b c := by
  show cR pd t (nx0 pd t (0, false)) a b c = _
  rw [show nx0 pd t (0, false) = (0, false) from if_neg (Nat.lt_irrefl 0)]
theorem nxR_c (h0 : 0 < s) (q : hr pd t s = 59) : nxR pd t (s, false) a b c = cR pd t (s + 1, false) a b c := by
  show cR pd t (nx0 pd t (s, false)) a b c = _
  rw [show nx0 pd t (s, false) = exR pd t 59 (s, false) from if_pos h0, exR_t (by decide) q]
theorem nxR_n (h0 : 0 < s) (q : ¬ hr pd t s = 59) : (nxR pd t (s, false) a b c).2 = (s, true) := by
  show (cR pd t (nx0 pd t (s, false)) a b c).2 = _
  rw [show nx0 pd t (s, false) = exR pd t 59 (s, false) from if_pos h0, exR_n q, cR_f]
theorem rpL_f {k : Nat} {x : Nat × (Nat → Int32) × Nat} : rpL pd t k (false, x) = (false, x) := by
  cases k with
  | zero => rfl
  | succ k => rw [rpL_s, if_neg (fun w => ftF w.1)]
theorem ffL_s {k : Nat} : ffL pd t (k + 1) s = if (nxR pd t (s, false) 0 0 0).2.2 = false then (if (nxR pd t (s, false) 0 0 0).2.1 < t then ffL pd t k (nxR pd t (s, false) 0 0 0).2.1 else -6) else nI (nxR pd t (s, false) 0 0 0).2.1 := rfl
theorem ff_l : ∀ (d s k k2 n : Nat) (told : Nat → Int32), 0 < s → t - s ≤ d → d < k → d < k2 → (if s < t then ffL pd t k2 s else -6) = (if (rpL pd t k (true, s, told, n)).1 = true then -6 else nI (rpL pd t k (true, s, told, n)).2.1) := by
  intro d
  induction d with
  | zero =>
    intro s k k2 n told h0 hd hk hk2
    obtain ⟨k, rfl⟩ : ∃ k', k = k' + 1 := ⟨k - 1, by omega⟩
    have hs : ¬ s < t := by omega
    rw [rpL_s, if_neg hs, if_neg (c := (true, s, told, n).1 = true ∧ (true, s, told, n).2.1 < t) (fun w => hs w.2)]
    rfl
  | succ d ih =>
    intro s k k2 n told h0 hd hk hk2
    obtain ⟨k, rfl⟩ : ∃ k', k = k' + 1 := ⟨k - 1, by omega⟩
    obtain ⟨k2, rfl⟩ : ∃ k', k2 = k' + 1 := ⟨k2 - 1, by omega⟩
    by_cases hs : s < t
    · by_cases q : hr pd t s = 59
      · have e1 : rpL pd t (k + 1) (true, s, told, n) = rpL pd t k (rd1 pd t (s + 1) told n) := by
          rw [rpL_s, if_pos (c := (true, s, told, n).1 = true ∧ (true, s, told, n).2.1 < t) ⟨rfl, hs⟩]
          exact if_pos ((hr_c (by decide)).mp q)
        rw [e1, if_pos hs, ffL_s, nxR_c h0 q]
        rcases ord pd told t (s + 1) n 0 0 0 with ⟨g1, g2, g3, g4, g5, g6⟩ | ⟨g1, g2⟩
        · rw [g2]
          generalize rd1 pd t (s + 1) told n = r at g1 g5 ⊢
          obtain ⟨r1, r2, r3, r4⟩ := r
          obtain rfl : r1 = true := g1
          have g5' : s + 1 + 2 ≤ r2 := g5
          exact ih r2 k k2 r4 r3 (by omega) (by omega) (by omega) (by omega)
        · rw [g2]
          generalize rd1 pd t (s + 1) told n = r at g1 ⊢
          obtain ⟨r1, r2, r3, r4⟩ := r
          obtain rfl : r1 = false := g1
          rw [rpL_f]
          rfl
      · have e1 : rpL pd t (k + 1) (true, s, told, n) = (false, s, told, n) := by
          rw [rpL_s, if_pos (c := (true, s, told, n).1 = true ∧ (true, s, told, n).2.1 < t) ⟨rfl, hs⟩]
          exact if_neg (fun w => q ((hr_c (by decide)).mpr w))
        rw [e1, if_pos hs, ffL_s, nxR_n h0 q]
        rfl
    · rw [rpL_s, if_neg hs, if_neg (c := (true, s, told, n).1 = true ∧ (true, s, told, n).2.1 < t) (fun w => hs w.2)]
      rfl
/-- the fault is the same -/
theorem ff_rp (ht : t ≤ 80) : ffL pd t 81 0 = if (rp pd t told).1 = true then -6 else nI (rp pd t told).2.1 := by
  unfold rp
  rw [ffL_s, nxR_0]
  rcases ord pd told t 0 0 0 0 0 with ⟨g1, g2, g3, g4, g5, g6⟩ | ⟨g1, g2⟩
  · rw [g2]
    generalize rd1 pd t 0 told 0 = r at g1 g5 ⊢
    obtain ⟨r1, r2, r3, r4⟩ := r
    obtain rfl : r1 = true := g1
    have g5' : 0 + 2 ≤ r2 := g5
    exact ff_l (t - r2) r2 (t + 1) 80 r4 r3 (by omega) (by omega) (by omega) (by omega)
  · rw [g2]
    generalize rd1 pd t 0 told 0 = r at g1 ⊢
    obtain ⟨r1, r2, r3, r4⟩ := r
    obtain rfl : r1 = false := g1
    rw [rpL_f]
    rfl
theorem IvS.step {s' : Nat} (H : IvS pd t told n s) (hs : ∀ a b c, nxR pd t (s, false) a b c = cR pd t (s', false) a b c) (hg : (rd1 pd t s' told n).1 = true) : IvS pd t (rd1 pd t s' told n).2.2.1 (rd1 pd t s' told n).2.2.2 (rd1 pd t s' told n).2.1 := by
  obtain ⟨ps, h0, h1, h2⟩ := H
  have good : ∀ a b c, (cR pd t (s', false) a b c).2 = ((rd1 pd t s' told n).2.1, false) ∧ (rd1 pd t s' told n).2.2.1 = oTd pd told t s' n ∧ (rd1 pd t s' told n).2.2.2 = n + 1 ∧ foR pd t s' a b c := fun a b c => by
    rcases ord pd told t s' n a b c with ⟨g1, g2, g3, g4, g5, g6⟩ | ⟨g1, g2⟩
    · exact ⟨g2, g3, g4, g6⟩
    · rw [hg] at g1
      cases g1
  obtain ⟨-, e3, e4, -⟩ := good 0 0 0
  generalize hs2 : (rd1 pd t s' told n).2.1 = s2 at good ⊢
  rw [e3, e4]
  obtain ⟨p0, p1, p2, p3, p4⟩ := up4 (f := told) (T := n) (a := oL pd t s') (b := (oF pd t s').1) (c := (oS pd t s').1) (e := (oT pd t s').1)
  have q0 : oTd pd told t s' n (4 * n) = oL pd t s' := p0
  have q1 : oTd pd told t s' n (4 * n + 1) = (oF pd t s').1 := p1
  have q2 : oTd pd told t s' n (4 * n + 2) = (oS pd t s').1 := p2
  have q3 : oTd pd told t s' n (4 * n + 3) = (oT pd t s').1 := p3
  have q4 : ∀ j, j < 4 * n → oTd pd told t s' n j = told j := fun j hj => p4 j (Or.inl hj)
  refine ⟨fun j => if j = n + 1 then s2 else ps j, ?_, if_pos rfl, fun j hj => ?_⟩
  · show (if 0 = n + 1 then s2 else ps 0) = 0
    rw [if_neg (by omega)]
    exact h0
  · unfold foT
    by_cases e : j = n
    · subst e
      rw [q0, q1, q2, q3]
      refine ⟨fun a b c => ?_, (good 0 0 0).2.2.2.2.1⟩
      obtain ⟨k1, -, -, k2, k3, k4, k5, k6⟩ := good a b c
      show (nxR pd t (if j = j + 1 then s2 else ps j, false) a b c).2 = (if j + 1 = j + 1 then s2 else ps (j + 1), false) ∧ _
      rw [if_pos rfl]
      dsimp only
      rw [if_neg (show ¬ j = j + 1 by omega), h1, hs]
      exact ⟨k1, k2, k4, k5, k6⟩
    · rw [q4 _ (by omega), q4 _ (by omega), q4 _ (by omega), q4 _ (by omega)]
      have e2 := h2 j (by omega)
      dsimp only
      rw [if_neg (show ¬ j = n + 1 by omega), if_neg (show ¬ j + 1 = n + 1 by omega)]
      exact e2
theorem rpL_iv : ∀ (d s k n : Nat) (told : Nat → Int32), 0 < s → t - s ≤ d → d < k → IvS pd t told n s → (rpL pd t k (true, s, told, n)).1 = true → IvS pd t (rpL pd t k (true, s, told, n)).2.2.1 (rpL pd t k (true, s, told, n)).2.2.2 (rpL pd t k (true, s, told, n)).2.1 ∧ t ≤ (rpL pd t k (true, s, told, n)).2.1 := by
  intro d
  induction d with
  | zero =>
    intro s k n told h0 hd hk H hg
    obtain ⟨k, rfl⟩ : ∃ k', k = k' + 1 := ⟨k - 1, by omega⟩
    have hs : ¬ s < t := by omega
    have e1 : rpL pd t (k + 1) (true, s, told, n) = (true, s, told, n) := by
      rw [rpL_s]
      exact if_neg (fun w => hs w.2)
    rw [e1]
    exact ⟨H, by show t ≤ s; omega⟩
  | succ d ih =>
    intro s k n told h0 hd hk H hg
    obtain ⟨k, rfl⟩ : ∃ k', k = k' + 1 := ⟨k - 1, by omega⟩
    by_cases hs : s < t
    · by_cases q : hr pd t s = 59
      · have e1 : rpL pd t (k + 1) (true, s, told, n) = rpL pd t k (rd1 pd t (s + 1) told n) := by
          rw [rpL_s, if_pos (c := (true, s, told, n).1 = true ∧ (true, s, told, n).2.1 < t) ⟨rfl, hs⟩]
          exact if_pos ((hr_c (by decide)).mp q)
        rw [e1] at hg ⊢
        have st := H.step (s' := s + 1) (fun a b c => nxR_c h0 q)
        rcases ord pd told t (s + 1) n 0 0 0 with ⟨g1, g2, g3, g4, g5, g6⟩ | ⟨g1, g2⟩
        · have st2 := st g1
          generalize rd1 pd t (s + 1) told n = r at g1 g5 st2 hg ⊢
          obtain ⟨r1, r2, r3, r4⟩ := r
          obtain rfl : r1 = true := g1
          have g5' : s + 1 + 2 ≤ r2 := g5
          exact ih r2 k r4 r3 (by omega) (by omega) (by omega) st2 hg
        · generalize rd1 pd t (s + 1) told n = r at g1 hg ⊢
          obtain ⟨r1, r2, r3, r4⟩ := r
          obtain rfl : r1 = false := g1
          rw [rpL_f] at hg
          exact ftF hg
      · have e1 : rpL pd t (k + 1) (true, s, told, n) = (false, s, told, n) := by
          rw [rpL_s, if_pos (c := (true, s, told, n).1 = true ∧ (true, s, told, n).2.1 < t) ⟨rfl, hs⟩]
          exact if_neg (fun w => q ((hr_c (by decide)).mpr w))
        rw [e1] at hg
        exact ftF hg
    · have e1 : rpL pd t (k + 1) (true, s, told, n) = (true, s, told, n) := by
        rw [rpL_s]
        exact if_neg (fun w => hs w.2)
      rw [e1]
      exact ⟨H, by show t ≤ s; omega⟩
theorem rp_iv (hg : (rp pd t told).1 = true) : IvS pd t (rp pd t told).2.2.1 (rp pd t told).2.2.2 (rp pd t told).2.1 ∧ t ≤ (rp pd t told).2.1 := by
  unfold rp at hg ⊢
  have H : IvS pd t told 0 0 := ⟨fun _ => 0, rfl, rfl, fun j hj => absurd hj (Nat.not_lt_zero _)⟩
  have st := H.step (s' := 0) (fun a b c => nxR_0)
  rcases ord pd told t 0 0 0 0 0 with ⟨g1, g2, g3, g4, g5, g6⟩ | ⟨g1, g2⟩
  · have st2 := st g1
    generalize rd1 pd t 0 told 0 = r at g1 g5 st2 hg ⊢
    obtain ⟨r1, r2, r3, r4⟩ := r
    obtain rfl : r1 = true := g1
    have g5' : 0 + 2 ≤ r2 := g5
    exact rpL_iv (t - r2) r2 (t + 1) r4 r3 (by omega) (by omega) (by omega) st2 hg
  · generalize rd1 pd t 0 told 0 = r at g1 hg ⊢
    obtain ⟨r1, r2, r3, r4⟩ := r
    obtain rfl : r1 = false := g1
    rw [rpL_f] at hg
    exact ftF hg
end R11
