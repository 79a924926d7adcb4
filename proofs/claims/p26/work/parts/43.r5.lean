/-! the relation read: the store's next, the lowest column, tops, loads, grips, where a ball rolls -/
theorem zAt_some {z : Zz} {P : Int32} {q : Nat} : ∀ {n : Nat}, q < n → zp z q 3 = 1 → zp z q 4 = P → (∀ i, i < n → i ≠ q → ¬ (zp z i 3 = 1 ∧ zp z i 4 = P)) → zAt z P n = nI q
  | 0, h, _, _, _ => absurd h (Nat.not_lt_zero _)
  | n + 1, hq, h1, h2, h3 => by
    unfold zAt
    by_cases e : n = q
    · subst e
      rw [if_pos ⟨h1, h2⟩]
    · rw [if_neg (h3 n (by omega) e)]
      exact zAt_some (by omega) h1 h2 fun i hi hn => h3 i (by omega) hn
theorem zAt_none {z : Zz} {P : Int32} : ∀ {n : Nat}, (∀ i, i < n → ¬ (zp z i 3 = 1 ∧ zp z i 4 = P)) → zAt z P n = -6
  | 0, _ => rfl
  | n + 1, h => by
    unfold zAt
    rw [if_neg (h n (by omega))]
    exact zAt_none fun i hi => h i (by omega)
theorem hSum_ge {h : Nat → Nat} : ∀ {n : Nat}, (∀ x, x < n → 1 ≤ h x) → n ≤ hSum h n
  | 0, _ => Nat.le_refl _
  | n + 1, e => by
    have := hSum_ge (h := h) (n := n) fun x hx => e x (by omega)
    have := e n (by omega)
    unfold hSum
    omega
theorem hLw_min {h : Nat → Nat} : ∀ {k x : Nat}, x ≤ k → h (hLw h k) ≤ h x
  | 0, x, hx => by
    obtain rfl : x = 0 := by omega
    exact Nat.le_refl _
  | k + 1, x, hx => by
    unfold hLw
    by_cases q : h (k + 1) < h (hLw h k)
    · rw [if_pos q]
      by_cases e : x = k + 1
      · rw [e]
        exact Nat.le_refl _
      · have := hLw_min (h := h) (k := k) (x := x) (by omega)
        omega
    · rw [if_neg q]
      by_cases e : x = k + 1
      · rw [e]
        omega
      · exact hLw_min (by omega)
/-- below eight prizes a column is empty -/
theorem hLw_0 {h : Nat → Nat} (e : hSum h 8 < 8) : h (hLw h 7) = 0 := by
  rcases Nat.eq_zero_or_pos (h (hLw h 7)) with q | q
  · exact q
  · have := hSum_ge (h := h) (n := 8) fun x hx => by
      have := hLw_min (h := h) (k := 7) (x := x) (by omega)
      omega
    omega
theorem i2le {a b : Nat} (ha : a ≤ 24) (hb : b ≤ 24) : nI a ≤ nI b - 2 ↔ a + 2 ≤ b := by
  rw [show (2 : Int32) = nI 2 from rfl, Int32.le_iff_toInt_le, pk_sub_toInt (by omega) (by omega), nI_toInt (by omega)]
  omega
theorem i2lt {a b : Nat} (ha : a ≤ 24) (hb : b ≤ 24) : nI a - nI b < 2 ↔ a < b + 2 := by
  rw [show (2 : Int32) = nI 2 from rfl, Int32.lt_iff_toInt_lt, pk_sub_toInt (by omega) (by omega), nI_toInt (by omega)]
  omega
theorem cm1 {c : Nat} (h : 0 < c) : nI c - 1 = nI (c - 1) := pk_sub (a := c) (b := 1) h
theorem hRo_n {h : Nat → Nat} {c : Nat} (hc : c < 8) (h4 : ∀ x, x < 8 → h x ≤ 4) : ∃ L R, ((0 < c ∧ L = h (c - 1)) ∨ (c = 0 ∧ L = 4)) ∧ ((c + 1 < 8 ∧ R = h (c + 1)) ∨ (¬ c + 1 < 8 ∧ R = 4)) ∧ ((h c < L + 2 ∧ h c < R + 2 ∧ hRo h c = -6) ∨ (R < L ∧ R + 2 ≤ h c ∧ hRo h c = nI (c + 1)) ∨ (L ≤ R ∧ L + 2 ≤ h c ∧ hRo h c = nI c - 1)) := by
  have n1 : nI c + 1 = nI (c + 1) := nI_add c 1
  have hr : hW h (nI c + 1) = nI (if c + 1 < 8 then h (c + 1) else 4) := by
    unfold hW
    by_cases q : c + 1 < 8
    · rw [n1, if_pos ⟨nI_pos' (by omega), nI_lt (b := 8) q (by omega)⟩, if_pos q, nI_clamp (by omega)]
    · rw [n1, if_neg (fun z => nI_nlt (a := c + 1) (b := 8) (by omega) (by omega) z.2), if_neg q]
      rfl
  have hl : hW h (nI c - 1) = nI (if 0 < c then h (c - 1) else 4) := by
    unfold hW
    by_cases q : 0 < c
    · rw [show (1 : Int32) = nI 1 from rfl, pk_sub (by omega), if_pos ⟨nI_pos' (by omega), nI_lt (b := 8) (by omega) (by omega)⟩, if_pos q, nI_clamp (by omega)]
    · obtain rfl : c = 0 := by omega
      rfl
  have hL : (0 < c ∧ (if 0 < c then h (c - 1) else 4) = h (c - 1)) ∨ (c = 0 ∧ (if 0 < c then h (c - 1) else 4) = 4) := by
    by_cases q : 0 < c
    · exact Or.inl ⟨q, if_pos q⟩
    · exact Or.inr ⟨by omega, if_neg q⟩
  have hR : (c + 1 < 8 ∧ (if c + 1 < 8 then h (c + 1) else 4) = h (c + 1)) ∨ (¬ c + 1 < 8 ∧ (if c + 1 < 8 then h (c + 1) else 4) = 4) := by
    by_cases q : c + 1 < 8
    · exact Or.inl ⟨q, if_pos q⟩
    · exact Or.inr ⟨q, if_neg q⟩
  unfold hRo
  rw [hr, hl, n1]
  generalize (if c + 1 < 8 then h (c + 1) else 4) = R at hR ⊢
  generalize (if 0 < c then h (c - 1) else 4) = L at hL ⊢
  refine ⟨L, R, hL, hR, ?_⟩
  have b0 := h4 c hc
  have b1 : L ≤ 4 := by
    rcases hL with ⟨q, rfl⟩ | ⟨-, rfl⟩
    · exact h4 _ (by omega)
    · omega
  have b2 : R ≤ 4 := by
    rcases hR with ⟨q, rfl⟩ | ⟨-, rfl⟩
    · exact h4 _ q
    · omega
  have cl : nI R < nI L ↔ R < L := nI_ltI (by omega) (by omega)
  by_cases q : R < L
  · rw [if_pos (cl.mpr q), if_pos (cl.mpr q)]
    by_cases q2 : h c < R + 2
    · rw [if_pos ((i2lt (by omega) (by omega)).mpr q2)]
      exact Or.inl ⟨by omega, q2, rfl⟩
    · rw [if_neg (fun w => q2 ((i2lt (by omega) (by omega)).mp w))]
      exact Or.inr (Or.inl ⟨q, by omega, rfl⟩)
  · rw [if_neg (fun w => q (cl.mp w)), if_neg (fun w => q (cl.mp w))]
    by_cases q2 : h c < L + 2
    · rw [if_pos ((i2lt (by omega) (by omega)).mpr q2)]
      exact Or.inl ⟨q2, by omega, rfl⟩
    · rw [if_neg (fun w => q2 ((i2lt (by omega) (by omega)).mp w))]
      exact Or.inr (Or.inr ⟨by omega, by omega, rfl⟩)
theorem zTo_n {z : Zz} {m c : Nat} {h : Nat → Nat} (hc : c < 8) (h4 : ∀ x, x < 8 → h x ≤ 4) (hz : ∀ x, x < 8 → zCnt z (nI x) m = h x) : (¬ (0 < c ∧ h (c - 1) + 2 ≤ h c) ∧ ¬ (c < 7 ∧ h (c + 1) + 2 ≤ h c) ∧ zTo z m (nI c) = -6) ∨ ((c < 7 ∧ h (c + 1) + 2 ≤ h c) ∧ (¬ (0 < c ∧ h (c - 1) + 2 ≤ h c) ∨ h (c + 1) < h (c - 1)) ∧ zTo z m (nI c) = nI (c + 1)) ∨ ((0 < c ∧ h (c - 1) + 2 ≤ h c) ∧ (¬ (c < 7 ∧ h (c + 1) + 2 ≤ h c) ∨ h (c - 1) ≤ h (c + 1)) ∧ zTo z m (nI c) = nI c - 1) := by
  have n1 : nI c + 1 = nI (c + 1) := nI_add c 1
  have b0 := h4 c hc
  have hL : ((0 < c ∧ h (c - 1) + 2 ≤ h c) ∧ zL z m (nI c) = nI (c - 1)) ∨ (¬ (0 < c ∧ h (c - 1) + 2 ≤ h c) ∧ zL z m (nI c) = -6) := by
    unfold zL
    by_cases q : 0 < c
    · have b1 := h4 (c - 1) (by omega)
      rw [cm1 q, hz c hc, hz (c - 1) (by omega)]
      by_cases q2 : h (c - 1) + 2 ≤ h c
      · rw [if_pos ⟨nI_lt (a := 0) q (by omega), (i2le (by omega) (by omega)).mpr q2⟩]
        exact Or.inl ⟨⟨q, q2⟩, rfl⟩
      · rw [if_neg (fun w => q2 ((i2le (by omega) (by omega)).mp w.2))]
        exact Or.inr ⟨fun w => q2 w.2, rfl⟩
    · rw [if_neg (fun w => q ((nI_ltI (a := 0) (by decide) (by omega)).mp w.1))]
      exact Or.inr ⟨fun w => q w.1, rfl⟩
  have hR : ((c < 7 ∧ h (c + 1) + 2 ≤ h c) ∧ zR z m (nI c) = nI (c + 1)) ∨ (¬ (c < 7 ∧ h (c + 1) + 2 ≤ h c) ∧ zR z m (nI c) = -6) := by
    unfold zR
    by_cases q : c < 7
    · have b1 := h4 (c + 1) (by omega)
      rw [n1, hz c hc, hz (c + 1) (by omega)]
      by_cases q2 : h (c + 1) + 2 ≤ h c
      · rw [if_pos ⟨nI_lt (b := 7) q (by omega), (i2le (by omega) (by omega)).mpr q2⟩]
        exact Or.inl ⟨⟨q, q2⟩, rfl⟩
      · rw [if_neg (fun w => q2 ((i2le (by omega) (by omega)).mp w.2))]
        exact Or.inr ⟨fun w => q2 w.2, rfl⟩
    · rw [if_neg (fun w => q ((nI_ltI (b := 7) (by omega) (by decide)).mp w.1))]
      exact Or.inr ⟨fun w => q w.1, rfl⟩
  unfold zTo
  rcases hL with ⟨l1, l2⟩ | ⟨l1, l2⟩
  · rcases hR with ⟨r1, r2⟩ | ⟨r1, r2⟩
    · have b1 := h4 (c - 1) (by omega)
      have b2 := h4 (c + 1) (by omega)
      rw [l2, r2, hz (c + 1) (by omega), hz (c - 1) (by omega)]
      by_cases q : h (c + 1) < h (c - 1)
      · rw [if_pos (Or.inr ⟨nI_m6 (by omega), nI_lt q (by omega)⟩)]
        exact Or.inr (Or.inl ⟨r1, Or.inr q, rfl⟩)
      · rw [if_neg (fun w => w.elim (nI_m6 (by omega)) fun w => q ((nI_ltI (by omega) (by omega)).mp w.2)), cm1 l1.1]
        exact Or.inr (Or.inr ⟨l1, Or.inr (by omega), rfl⟩)
    · rw [l2, r2, if_neg (fun w => w.elim (nI_m6 (by omega)) fun w => w.1 rfl), cm1 l1.1]
      exact Or.inr (Or.inr ⟨l1, Or.inl r1, rfl⟩)
  · rw [l2, if_pos (Or.inl rfl)]
    rcases hR with ⟨r1, r2⟩ | ⟨r1, r2⟩
    · exact Or.inr (Or.inl ⟨r1, Or.inl l1, r2⟩)
    · exact Or.inl ⟨l1, r1, r2⟩
theorem zTo_h {z : Zz} {m c : Nat} {h : Nat → Nat} (hc : c < 8) (h4 : ∀ x, x < 8 → h x ≤ 4) (hz : ∀ x, x < 8 → zCnt z (nI x) m = h x) : zTo z m (nI c) = hRo h c := by
  have b0 := h4 c hc
  obtain ⟨L, R, hL, hR, e⟩ := hRo_n hc h4
  rcases zTo_n hc h4 hz with ⟨a1, a2, a3⟩ | ⟨a1, a2, a3⟩ | ⟨a1, a2, a3⟩
  · rcases e with ⟨e1, e2, e3⟩ | ⟨e1, e2, e3⟩ | ⟨e1, e2, e3⟩
    · exact a3.trans e3.symm
    · exfalso; omega
    · exfalso; omega
  · rcases e with ⟨e1, e2, e3⟩ | ⟨e1, e2, e3⟩ | ⟨e1, e2, e3⟩
    · exfalso; omega
    · exact a3.trans e3.symm
    · exfalso; omega
  · rcases e with ⟨e1, e2, e3⟩ | ⟨e1, e2, e3⟩ | ⟨e1, e2, e3⟩
    · exfalso; omega
    · exfalso; omega
    · exact a3.trans e3.symm
theorem hRo_c {h : Nat → Nat} {c : Nat} (hc : c < 8) (h4 : ∀ x, x < 8 → h x ≤ 4) : (hRo h c = -6 ∧ ¬ (0 ≤ hRo h c ∧ hRo h c < 8)) ∨ ∃ j, j < 8 ∧ j ≠ c ∧ hRo h c = nI j ∧ h j + 2 ≤ h c ∧ (0 ≤ hRo h c ∧ hRo h c < 8) := by
  obtain ⟨L, R, hL, hR, e⟩ := hRo_n hc h4
  rcases e with ⟨e1, e2, e3⟩ | ⟨e1, e2, e3⟩ | ⟨e1, e2, e3⟩
  · rw [e3]
    exact Or.inl ⟨rfl, by decide⟩
  · have b0 := h4 c hc
    have hj : c + 1 < 8 := by
      rcases hR with q | q
      · exact q.1
      · omega
    have hr : R = h (c + 1) := by
      rcases hR with q | q
      · exact q.2
      · omega
    rw [e3]
    exact Or.inr ⟨c + 1, hj, by omega, rfl, by omega, nI_pos' (by omega), nI_lt (b := 8) hj (by omega)⟩
  · have b0 := h4 c hc
    have hj : 0 < c := by
      rcases hL with q | q
      · exact q.1
      · omega
    have hl : L = h (c - 1) := by
      rcases hL with q | q
      · exact q.2
      · omega
    rw [e3, cm1 hj]
    exact Or.inr ⟨c - 1, by omega, by omega, rfl, by omega, nI_pos' (by omega), nI_lt (b := 8) (by omega) (by omega)⟩
theorem i01 {a : Int32} : 0 < a ↔ 1 ≤ a := by
  rw [Int32.lt_iff_toInt_lt, Int32.le_iff_toInt_le, show (0 : Int32).toInt = 0 from rfl, show (1 : Int32).toInt = 1 from rfl]
  omega
section R5
variable {z z' : Zz} {y y' : Yy} {b m l p c t s : Nat} {h : Nat → Nat} {cl : Nat → Nat → Nat}
theorem RP.h4 (H : RP z y m l h cl) : ∀ x, x < 8 → h x ≤ 4 := fun x hx => (H.2.1 x hx).2
theorem RP.nx (H : RP z y m l h cl) : zNx z m m 0 = l := by
  have go : ∀ k i, i + k = m → i ≤ l → zNx z m k i = l := by
    intro k
    induction k with
    | zero =>
      intro i hi hl
      have := H.1.2.2.2
      show i = l
      omega
    | succ k ih =>
      intro i hi hl
      have e := (H.2.2.1 i (by omega)).2.2.2.2
      unfold zNx
      by_cases q : zp z i 3 = 0
      · rw [if_pos q]
        have := e.mp q
        omega
      · rw [if_neg q]
        refine ih (i + 1) (by omega) ?_
        have : ¬ l ≤ i := fun w => q (e.mpr w)
        omega
  exact go m 0 (by omega) (by omega)
theorem RP.lw (H : RP z y m l h cl) : ∀ k, k ≤ 7 → zLw z m k = hLw h k
  | 0, _ => rfl
  | k + 1, hk => by
    have e := H.lw k (by omega)
    have := hLw_le h k
    unfold zLw hLw
    rw [e, H.2.2.2.2.2.2.1 (k + 1) (by omega), H.2.2.2.2.2.2.1 (hLw h k) (by omega)]
theorem RP.at (H : RP z y m l h cl) (hc : c < 8) {k : Nat} (hk : k < h c) : zAt z (nI (10 * c + k)) m = nI (cl c k) := by
  obtain ⟨f1, f2, f3, f4⟩ := H.2.2.2.2.1 c hc k hk
  refine zAt_some f2 f3 f4 fun i hi hn q => ?_
  obtain ⟨x, j, hx, hj, e⟩ := H.2.2.2.2.2.1 i hi q.1
  obtain ⟨g1, g2, g3, g4⟩ := H.2.2.2.2.1 x hx j hj
  have b1 := H.h4 c hc
  have b2 := H.h4 x hx
  rw [← e, g4] at q
  have e2 := (nI_eq (by omega) (by omega)).mp q.2
  obtain rfl : x = c := by omega
  obtain rfl : j = k := by omega
  exact hn e.symm
theorem RP.at_n (H : RP z y m l h cl) (hc : c < 8) {k : Nat} (hk : h c ≤ k) (hk2 : k < 10) : zAt z (nI (10 * c + k)) m = -6 := by
  refine zAt_none fun i hi q => ?_
  obtain ⟨x, j, hx, hj, e⟩ := H.2.2.2.2.2.1 i hi q.1
  obtain ⟨g1, g2, g3, g4⟩ := H.2.2.2.2.1 x hx j hj
  have b2 := H.h4 x hx
  rw [← e, g4] at q
  have e2 := (nI_eq (by omega) (by omega)).mp q.2
  obtain rfl : x = c := by omega
  omega
theorem RP.top0 (H : RP z y m l h cl) (hc : c < 8) (h0 : h c = 0) : zTop z m (nI c) = -6 := by
  unfold zTop
  rw [H.2.2.2.2.2.2.1 c hc, if_pos h0]
theorem RP.top (H : RP z y m l h cl) (hc : c < 8) (h0 : ¬ h c = 0) : zTop z m (nI c) = nI (cl c (h c - 1)) ∧ cl c (h c - 1) < m ∧ zp z (cl c (h c - 1)) 3 = 1 := by
  obtain ⟨f1, f2, f3, f4⟩ := H.2.2.2.2.1 c hc (h c - 1) (by omega)
  refine ⟨?_, f2, f3⟩
  unfold zTop
  rw [H.2.2.2.2.2.2.1 c hc, if_neg h0, n10, nI_add, show (1 : Int32) = nI 1 from rfl, pk_sub (by omega), show 10 * c + h c - 1 = 10 * c + (h c - 1) by omega]
  exact H.at hc (by omega)
theorem RP.ld (H : RP z y m l h cl) (hc : c < 8) (hp : p < m) (aim : Int32) : zLoad z m p (nI c) aim = yLoad y h c p aim := by
  obtain ⟨⟨c1, c2, -⟩, -⟩ := H.2.2.1 p hp
  unfold zLoad yLoad
  rw [c1, c2, H.2.2.2.2.2.2.1 c hc]
  by_cases k1 : zp z p 0 = 1
  · have k2 : ¬ zp z p 0 = 2 := fun e => absurd (k1.symm.trans e) (by decide)
    rw [if_pos k1]
    by_cases a : 1 ≤ aim
    · rw [if_pos ⟨k1, i01.mpr a⟩, if_pos a]
    · rw [if_neg (fun w => a (i01.mp w.2)), if_neg k2, if_neg a, Int32.add_zero]
  · rw [if_neg (fun w => k1 w.1), if_neg k1]
    by_cases k2 : zp z p 0 = 2
    · rw [if_pos k2, if_pos k2]
    · rw [if_neg k2, if_neg k2, Int32.add_zero]
theorem RC.gp (H : RC b z y m l h cl) (aim : Int32) : zGrip z (z 7 + z 0) aim = yGrip y aim := by
  obtain ⟨hP, ⟨⟨n0, n1, n2, n3, n4, n5, n6⟩, n7⟩, -⟩ := H
  unfold zGrip yGrip
  rw [n1, n7 0 (by decide), n7 1 (by decide), n7 2 (by decide), n7 3 (by decide), n7 4 (by decide)]
theorem RP.to (H : RP z y m l h cl) (hc : c < 8) : zTo z m (nI c) = hRo h c := zTo_h hc H.h4 H.2.2.2.2.2.2.1
/-- what a play would do -/
theorem RC.out (H : RC b z y m l h cl) (hc : c < 8) (aim : Int32) : zIf z m (nI c) aim = yOut y h cl c aim := by
  have hP := H.1
  unfold zIf yOut
  by_cases h0 : h c = 0
  · rw [hP.top0 hc h0, if_pos rfl, if_pos h0]
  · obtain ⟨t1, t2, t3⟩ := hP.top hc h0
    have m24 := hP.1.2.1
    rw [t1, if_neg (nI_m6 (by omega)), if_neg h0, nI_clamp (by omega), hP.ld hc t2, H.gp, hP.to hc]
    by_cases g : yGrip y aim < yLoad y h c (cl c (h c - 1)) aim
    · have g2 : ¬ ¬ yGrip y aim < yLoad y h c (cl c (h c - 1)) aim := fun w => w g
      rw [if_pos g, if_neg g2, (hP.2.2.1 _ t2).1.1]
      rcases hRo_c hc hP.h4 with ⟨e1, e2⟩ | ⟨j, j1, j2, j3, j4, j5⟩
      · rw [if_neg (fun w => w.2 e1), if_neg (fun w => e2 w.2)]
      · by_cases k : zp z (cl c (h c - 1)) 0 = 1
        · rw [if_pos ⟨k, by rw [j3]; exact nI_m6 (by omega)⟩, if_pos ⟨k, j5⟩]
        · rw [if_neg (fun w => k w.1), if_neg (fun w => k w.1)]
    · rw [if_neg g, if_pos g]
end R5
