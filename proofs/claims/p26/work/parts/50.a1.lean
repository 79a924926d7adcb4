/-! the numbers of a crane add up -/
def yGs (y : Yy) : Nat → Nat
  | 0 => 0
  | i + 1 => yGs y i + (y 7 i).toNatClampNeg
theorem yGs_cg {y y' : Yy} : ∀ {m : Nat}, (∀ i, i < m → y' 7 i = y 7 i) → yGs y' m = yGs y m
  | 0, _ => rfl
  | m + 1, h => by
    unfold yGs
    rw [yGs_cg (y := y) (y' := y') (fun i hi => h i (by omega)), h m (by omega)]
theorem yGs_1 {y y' : Yy} {p g : Nat} (hg : g < 1000000) (e : y 7 p = nI g) (e' : y' 7 p = nI (g + 1)) : ∀ {m : Nat}, p < m → (∀ i, i < m → i ≠ p → y' 7 i = y 7 i) → yGs y' m = yGs y m + 1
  | 0, h, _ => absurd h (Nat.not_lt_zero _)
  | m + 1, hp, h => by
    unfold yGs
    by_cases q : p = m
    · subst q
      rw [yGs_cg (y := y) (y' := y') (fun i hi => h i (by omega) (by omega)), e, e', nI_clamp (by omega), nI_clamp (by omega)]
      omega
    · rw [yGs_1 hg e e' (by omega) (fun i hi hn => h i (by omega) hn), h m (by omega) (fun z => q z.symm)]
      omega
def AK (y : Yy) (m d cr du pa pl fp sl : Nat) : Prop :=
  (y 0 0 = nI cr ∧ y 0 1 = nI du ∧ y 0 2 = nI pa ∧ y 0 3 = nI pl ∧ y 0 4 = nI fp ∧ y 0 5 = nI sl) ∧ (cr ≤ 999 ∧ du ≤ pa ∧ pl ≤ pa ∧ pa ≤ 9 * pl ∧ fp ≤ pl ∧ pl ≤ 1000) ∧ (∀ p, p < m → ∃ g, y 7 p = nI g ∧ g ≤ pl ∧ (y 6 p = 0 → g = 0) ∧ (y 6 p = 2 → 0 < g)) ∧ yGs y m = yWon y m + sl + d ∧ yWon y m + sl + d ≤ pl
def AC (n : Nat) (y : Yy) (m : Nat) : Prop := ∃ cr du pa pl fp sl, AK y m 0 cr du pa pl fp sl ∧ pl ≤ n
section A1
variable {y y' : Yy} {m d cr du pa pl fp sl n p : Nat}
/-- rows 0, 6 and 7 as they were -/
theorem AK.cg (A : AK y m d cr du pa pl fp sl) (e0 : ∀ k, k < 6 → y' 0 k = y 0 k) (e6 : ∀ i, i < m → y' 6 i = y 6 i) (e7 : ∀ i, i < m → y' 7 i = y 7 i) : AK y' m d cr du pa pl fp sl := by
  obtain ⟨⟨a0, a1, a2, a3, a4, a5⟩, b, c, f, g⟩ := A
  refine ⟨⟨(e0 0 (by decide)).trans a0, (e0 1 (by decide)).trans a1, (e0 2 (by decide)).trans a2, (e0 3 (by decide)).trans a3, (e0 4 (by decide)).trans a4, (e0 5 (by decide)).trans a5⟩, b, fun p hp => ?_, ?_, ?_⟩
  · rw [e6 p hp, e7 p hp]
    exact c p hp
  · rw [yGs_cg (y := y) e7, yWon_cg (y := y) e6]
    exact f
  · rw [yWon_cg (y := y) e6]
    exact g
/-- rows 0 and 7 as they were, prizes moved but none won -/
theorem AK.mv (A : AK y m d cr du pa pl fp sl) (e0 : ∀ k, k < 6 → y' 0 k = y 0 k) (e6 : ∀ i, i < m → (y' 6 i = y 6 i ∨ (y' 6 i = 1 ∧ y 6 i ≠ 2))) (e7 : ∀ i, i < m → y' 7 i = y 7 i) : AK y' m d cr du pa pl fp sl := by
  obtain ⟨⟨a0, a1, a2, a3, a4, a5⟩, b, c, f, g⟩ := A
  have k1 : ∀ n, n ≤ m → yWon y' n = yWon y n := by
    intro n
    induction n with
    | zero => intro _; rfl
    | succ n ih =>
      intro hn
      unfold yWon
      rw [ih (by omega)]
      rcases e6 n (by omega) with q | ⟨q1, q2⟩
      · rw [q]
      · rw [if_neg (by rw [q1]; decide), if_neg q2]
  refine ⟨⟨(e0 0 (by decide)).trans a0, (e0 1 (by decide)).trans a1, (e0 2 (by decide)).trans a2, (e0 3 (by decide)).trans a3, (e0 4 (by decide)).trans a4, (e0 5 (by decide)).trans a5⟩, b, fun p hp => ?_, ?_, ?_⟩
  · rw [e7 p hp]
    obtain ⟨g, g1, g2, g3, g4⟩ := c p hp
    rcases e6 p hp with q | ⟨q1, q2⟩
    · rw [q]
      exact ⟨g, g1, g2, g3, g4⟩
    · rw [q1]
      exact ⟨g, g1, g2, fun z => absurd z (by decide), fun z => absurd z (by decide)⟩
  · rw [yGs_cg (y := y) e7, k1 m (Nat.le_refl _)]
    exact f
  · rw [k1 m (Nat.le_refl _)]
    exact g
theorem AC.eq (A : AC n y m) (h24 : m ≤ 24) (e : yEq y' y) : AC n y' m := by
  obtain ⟨cr, du, pa, pl, fp, sl, A, hn⟩ := A
  exact ⟨cr, du, pa, pl, fp, sl, A.cg (fun k hk => e 0 (by decide) k (show k < 7 by omega)) (fun i hi => e 6 (by decide) i (show i < 24 by omega)) (fun i hi => e 7 (by decide) i (show i < 24 by omega)), hn⟩
theorem AC.up {n' : Nat} (A : AC n y m) (h : n ≤ n') : AC n' y m := by
  obtain ⟨cr, du, pa, pl, fp, sl, A, hn⟩ := A
  exact ⟨cr, du, pa, pl, fp, sl, A, by omega⟩
theorem AK.come (A : AK y m d cr du pa pl fp sl) (e0 : y' 0 = y 0) (e6 : y' 6 = y 6) (e7 : y' 7 = y 7) (m6 : y 6 m = 0) (m7 : y 7 m = 0) : AK y' (m + 1) d cr du pa pl fp sl := by
  obtain ⟨a, b, c, f, g⟩ := A
  have w : yWon y' (m + 1) = yWon y m := by
    show yWon y' m + (if y' 6 m = 2 then 1 else 0) = _
    rw [e6, m6, if_neg (by decide), yWon_cg (y := y) (y' := y') (fun i _ => by rw [e6])]
    rfl
  have s : yGs y' (m + 1) = yGs y m := by
    show yGs y' m + (y' 7 m).toNatClampNeg = _
    rw [e7, m7, yGs_cg (y := y) (y' := y') (fun i _ => by rw [e7])]
    rfl
  rw [AK, w, s, e0, e6, e7]
  refine ⟨a, b, fun p hp => ?_, f, g⟩
  by_cases q : p = m
  · rw [q, m6, m7]
    exact ⟨0, nI_0.symm, Nat.zero_le _, fun _ => rfl, fun z => absurd z (by decide)⟩
  · exact c p (by omega)
theorem AK.coins {v : Nat} (A : AK y m d cr du pa pl fp sl) (hv : cr + v ≤ 999) : AK (yu y 0 (fl [y 0 0 + nI v, y 0 1, y 0 2, y 0 3, y 0 4, y 0 5, y 0 6])) m d (cr + v) du pa pl fp sl := by
  obtain ⟨⟨a0, a1, a2, a3, a4, a5⟩, ⟨b1, b2⟩, c, f, g⟩ := A
  have w : yWon (yu y 0 (fl [y 0 0 + nI v, y 0 1, y 0 2, y 0 3, y 0 4, y 0 5, y 0 6])) m = yWon y m := yWon_cg fun i _ => rfl
  have s : yGs (yu y 0 (fl [y 0 0 + nI v, y 0 1, y 0 2, y 0 3, y 0 4, y 0 5, y 0 6])) m = yGs y m := yGs_cg fun i _ => rfl
  refine ⟨⟨?_, a1, a2, a3, a4, a5⟩, ⟨hv, b2⟩, c, by rw [w, s]; exact f, by rw [w]; exact g⟩
  show y 0 0 + nI v = _
  rw [a0, nI_add]
theorem yE1_n : ∃ e, e ≤ 1 ∧ yE1 y = nI e := by
  unfold yE1
  by_cases q : ¬ y 0 1 + y 1 0 < y 1 1
  · exact ⟨1, Nat.le_refl _, bI_t q⟩
  · exact ⟨0, Nat.zero_le _, (bI_f q).trans nI_0.symm⟩
theorem AK.pay {a : Nat} (A : AK y m 0 cr du pa pl fp sl) (ha : y 1 0 = nI a) (a1 : 1 ≤ a) (a9 : a ≤ 9) (hc : a ≤ cr) (hl : pl < 1000) : ∃ e, AK (yPay y (yE1 y)) m 0 (cr - a) (du + a) (pa + a) (pl + 1) (fp + e) sl ∧ (∀ p, p < m → ∃ g, y 7 p = nI g ∧ g + 1 ≤ pl + 1) ∧ yWon (yPay y (yE1 y)) m + sl + 1 ≤ pl + 1 := by
  obtain ⟨⟨b0, b1, b2, b3, b4, b5⟩, ⟨c1, c2, c3, c4, c5, c6⟩, c, f, g⟩ := A
  obtain ⟨e, he, he2⟩ := yE1_n (y := y)
  have w : yWon (yPay y (yE1 y)) m = yWon y m := yWon_cg fun i _ => rfl
  refine ⟨e, ⟨⟨?_, ?_, ?_, ?_, ?_, b5⟩, ⟨by omega, by omega, by omega, by omega, by omega, by omega⟩, fun p hp => ?_, ?_, ?_⟩, fun p hp => ?_, ?_⟩
  · show y 0 0 - y 1 0 = _
    rw [b0, ha, pk_sub hc]
  · show y 0 1 + y 1 0 = _
    rw [b1, ha, nI_add]
  · show y 0 2 + y 1 0 = _
    rw [b2, ha, nI_add]
  · show y 0 3 + 1 = _
    rw [b3, nI_1]
  · show y 0 4 + yE1 y = _
    rw [b4, he2, nI_add]
  · obtain ⟨g, g1, g2, g3, g4⟩ := c p hp
    exact ⟨g, g1, by omega, g3, g4⟩
  · rw [w, show yGs (yPay y (yE1 y)) m = yGs y m from yGs_cg fun i _ => rfl]
    exact f
  · rw [w]
    omega
  · obtain ⟨g, g1, g2, g3, g4⟩ := c p hp
    exact ⟨g, g1, by omega⟩
  · rw [w]
    omega
theorem AK.gr (A : AK y m 0 cr du pa pl fp sl) (hp : p < m) (hg : ∃ g, y 7 p = nI g ∧ g + 1 ≤ pl) (h6 : y 6 p = 1) (hl : yWon y m + sl + 1 ≤ pl) : AK (yGr y p) m 1 cr du pa pl fp sl ∧ ∃ g, yGr y p 7 p = nI g ∧ 0 < g ∧ g ≤ pl := by
  obtain ⟨b, c0, c, f, g⟩ := A
  obtain ⟨x, x1, x2⟩ := hg
  have c6 := c0.2.2.2.2.2
  have w : yWon (yGr y p) m = yWon y m := yWon_cg fun i _ => rfl
  have e7 : yGr y p 7 p = nI (x + 1) := by
    show upd (y 7) p (y 7 p + 1) p = _
    rw [pk_us, x1, nI_1]
  have n7 : ∀ i, i ≠ p → yGr y p 7 i = y 7 i := fun i hi => pk_un hi
  refine ⟨⟨b, c0, fun q hq => ?_, ?_, ?_⟩, x + 1, e7, Nat.succ_pos _, x2⟩
  · by_cases e : q = p
    · rw [e, e7, show yGr y p 6 p = y 6 p from rfl, h6]
      exact ⟨x + 1, rfl, x2, fun z => absurd z (by decide), fun z => absurd z (by decide)⟩
    · rw [n7 q e]
      exact c q hq
  · rw [w, yGs_1 (y := y) (y' := yGr y p) (g := x) (by omega) x1 e7 hp (fun i _ hi => n7 i hi)]
    omega
  · rw [w]
    exact hl
theorem AK.won (A : AK y m 1 cr du pa pl fp sl) (hp : p < m) (h6 : y 6 p = 1) (hg : ∃ g, y 7 p = nI g ∧ 0 < g ∧ g ≤ pl) (e0 : y' 0 = fl [y 0 0, 0, y 0 2, y 0 3, y 0 4, y 0 5, y 0 6]) (e6 : y' 6 = upd (y 6) p 2) (e7 : y' 7 = y 7) : AK y' m 0 cr 0 pa pl fp sl := by
  obtain ⟨⟨a0, a1, a2, a3, a4, a5⟩, ⟨b0, b1, b2⟩, c, f, g⟩ := A
  obtain ⟨x, x1, x2, x3⟩ := hg
  have w : yWon y' m = yWon y m + 1 := yWon_1 (y := y) (y' := y') hp (fun i _ hi => by rw [e6, pk_un hi]) (by rw [h6]; decide) (by rw [e6, pk_us])
  have s : yGs y' m = yGs y m := yGs_cg (y := y) fun i _ => by rw [e7]
  refine ⟨?_, ⟨b0, Nat.zero_le _, b2⟩, fun q hq => ?_, by rw [w, s]; omega, by rw [w]; omega⟩
  · rw [e0]
    exact ⟨a0, nI_0.symm, a2, a3, a4, a5⟩
  · rw [e7]
    obtain ⟨g, g1, g2, g3, g4⟩ := c q hq
    by_cases e : q = p
    · rw [e, e6, pk_us]
      exact ⟨x, x1, x3, fun z => absurd z (by decide), fun _ => x2⟩
    · rw [e6, pk_un e]
      exact ⟨g, g1, g2, g3, g4⟩
theorem AK.lose (A : AK y m 1 cr du pa pl fp sl) : AK (yLs y) m 0 cr du pa pl fp (sl + 1) := by
  obtain ⟨⟨a0, a1, a2, a3, a4, a5⟩, b, c, f, g⟩ := A
  have w : yWon (yLs y) m = yWon y m := yWon_cg fun i _ => rfl
  have s : yGs (yLs y) m = yGs y m := yGs_cg fun i _ => rfl
  refine ⟨⟨a0, a1, a2, a3, a4, ?_⟩, b, c, by rw [w, s]; omega, by rw [w]; omega⟩
  show y 0 5 + 1 = _
  rw [a5, nI_1]
end A1
