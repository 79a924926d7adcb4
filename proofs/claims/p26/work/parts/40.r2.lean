/-! the relation with one prize in hand: taken out of the store or off a column, put on a column or won -/
theorem RP.eq {z z' : Zz} {y y' : Yy} {m l : Nat} {h : Nat → Nat} {cl : Nat → Nat → Nat} (H : RP z y m l h cl) (e : ∀ p j, p < m → j < 6 → zp z' p j = zp z p j) (g : ∀ i, 2 ≤ i → i ≤ 10 → ∀ k, k < yL i → y' i k = y i k) : RP z' y' m l h cl := by
  obtain ⟨a, b, c, d, f, g1, g2, g3⟩ := H
  have a2 := a.2.1
  refine ⟨?_, fun x hx => ?_, fun p hp => ?_, fun p hp hp2 => ?_, fun x hx k hk => ?_, fun p hp h1 => ?_, fun x hx => ?_, ?_⟩
  · rw [g 2 (by decide) (by decide) 0 (by decide), g 2 (by decide) (by decide) 1 (by decide)]
    exact a
  · rw [g 10 (by decide) (by decide) x hx]
    exact b x hx
  · have hp24 : p < 24 := by omega
    unfold RQ
    rw [g 3 (by decide) (by decide) p hp24, g 4 (by decide) (by decide) p hp24, g 5 (by decide) (by decide) p hp24, g 6 (by decide) (by decide) p hp24, g 7 (by decide) (by decide) p hp24, e p 0 hp (by decide), e p 1 hp (by decide), e p 2 hp (by decide), e p 3 hp (by decide), e p 4 hp (by decide), e p 5 hp (by decide)]
    exact c p hp
  · rw [g 6 (by decide) (by decide) p hp2, g 7 (by decide) (by decide) p hp2]
    exact d p hp hp2
  · obtain ⟨f1, f2, f3, f4⟩ := f x hx k hk
    have hb := (b x hx).2
    rw [g 9 (by decide) (by decide) (4 * x + k) (show 4 * x + k < 32 by omega), e _ 3 f2 (by decide), e _ 4 f2 (by decide)]
    exact ⟨f1, f2, f3, f4⟩
  · rw [e p 3 hp (by decide)] at h1
    exact g1 p hp h1
  · rw [zCnt_cg fun p hp => ⟨e p 3 hp (by decide), e p 4 hp (by decide)⟩]
    exact g2 x hx
  · rw [zMany_cg fun p hp => e p 3 hp (by decide)]
    exact g3
theorem z34 {z : Zz} {p q j : Nat} {a b : Int32} (hj : j < 6) : zp (zset (zset z p 3 a) p 4 b) q j = if q = p ∧ j = 4 then b else if q = p ∧ j = 3 then a else zp z q j := by
  rw [zp_zs (by decide) hj, zp_zs (by decide) hj]
theorem z34n {z : Zz} {p q : Nat} (j : Nat) {a b : Int32} (hj : j < 6) (h : q ≠ p ∨ (j ≠ 3 ∧ j ≠ 4)) : zp (zset (zset z p 3 a) p 4 b) q j = zp z q j := by
  rw [z34 hj, if_neg (by omega), if_neg (by omega)]
theorem z34_3 {z : Zz} {p : Nat} {a b : Int32} : zp (zset (zset z p 3 a) p 4 b) p 3 = a := by
  rw [z34 (by decide), if_neg (by omega), if_pos ⟨rfl, rfl⟩]
theorem z34_4 {z : Zz} {p : Nat} {a b : Int32} : zp (zset (zset z p 3 a) p 4 b) p 4 = b := by
  rw [z34 (by decide), if_pos ⟨rfl, rfl⟩]
def RQ0 (z : Zz) (y : Yy) (p : Nat) : Prop := (y 3 p = zp z p 0 ∧ y 4 p = zp z p 1 ∧ y 5 p = zp z p 2 ∧ y 7 p = zp z p 5) ∧ pOk (zp z p 0) (zp z p 1) (zp z p 2)
def RH (z : Zz) (y : Yy) (m l : Nat) (h : Nat → Nat) (cl : Nat → Nat → Nat) (p : Nat) : Prop :=
  (y 2 0 = nI m ∧ m ≤ 24 ∧ y 2 1 = nI l ∧ l ≤ m) ∧ hOk y h ∧ (∀ q, q < m → q ≠ p → RQ z y l q) ∧ (p < l ∧ RQ0 z y p) ∧ (∀ q, m ≤ q → q < 24 → y 6 q = 0 ∧ y 7 q = 0)
  ∧ (∀ c, c < 8 → ∀ k, k < h c → y 9 (4 * c + k) = nI (cl c k) ∧ cl c k < m ∧ cl c k ≠ p ∧ zp z (cl c k) 3 = 1 ∧ zp z (cl c k) 4 = nI (10 * c + k))
  ∧ (∀ q, q < m → q ≠ p → zp z q 3 = 1 → ∃ c k, c < 8 ∧ k < h c ∧ cl c k = q)
  ∧ (∀ c, c < 8 → kn (fun i => i ≠ p ∧ zp z i 3 = 1 ∧ zp z i 4 / 10 = nI c) (fun _ => inferInstance) m = h c) ∧ kn (fun i => i ≠ p ∧ zp z i 3 = 1) (fun _ => inferInstance) m = hSum h 8
def cUp (cl : Nat → Nat → Nat) (h : Nat → Nat) (c p : Nat) : Nat → Nat → Nat := fun x k => if x = c ∧ k = h c then p else cl x k
theorem cUp_e {cl : Nat → Nat → Nat} {h : Nat → Nat} {c p : Nat} : cUp cl h c p c (h c) = p := if_pos ⟨rfl, rfl⟩
theorem cUp_n {cl : Nat → Nat → Nat} {h : Nat → Nat} {c p x k : Nat} (q : ¬ (x = c ∧ k = h c)) : cUp cl h c p x k = cl x k := if_neg q
theorem dc10 {c x k : Nat} (hc : c < 8) (hx : x < 8) (hk : k < 10) (e : nI (10 * c + k) / 10 = nI x) : c = x := by
  rw [d10 hk (by omega)] at e
  exact (nI_eq (by omega) (by omega)).mp e
section R2
variable {z z' : Zz} {y y' : Yy} {m l p c : Nat} {h : Nat → Nat} {cl : Nat → Nat → Nat}
theorem RP.fromStore (H : RP z y m l h cl) (hl : l < m) (e0 : y' 2 0 = y 2 0) (e1 : y' 2 1 = nI (l + 1)) (e3 : y' 3 = y 3) (e4 : y' 4 = y 4) (e5 : y' 5 = y 5) (e6 : ∀ q, q ≠ l → y' 6 q = y 6 q) (e7 : y' 7 = y 7) (e9 : y' 9 = y 9) (e10 : y' 10 = y 10) : RH z y' m (l + 1) h cl l := by
  obtain ⟨⟨a1, a2, a3, a4⟩, b, q1, d, f, g1, g2, g3⟩ := H
  have hl3 : zp z l 3 = 0 := (q1 l hl).2.2.2.2.mpr (Nat.le_refl _)
  have hn : ∀ i, zp z i 3 = 1 → i ≠ l := fun i hi e => by
    rw [e, hl3] at hi
    exact absurd hi (by decide)
  refine ⟨⟨e0.trans a1, a2, e1, hl⟩, b.of e10, fun q hq hn => ?_, ⟨by omega, ?_⟩, fun q hq hq2 => ?_, fun x hx k hk => ?_, fun q hq _ h1 => g1 q hq h1, fun x hx => ?_, ?_⟩
  · obtain ⟨c1, c2, c3, c4, c5⟩ := q1 q hq
    refine ⟨?_, c2, c3, c4, c5.trans ⟨fun z => by omega, fun z => by omega⟩⟩
    rw [e3, e4, e5, e6 q hn, e7]
    exact c1
  · obtain ⟨⟨c1, c2, c3, c4, c5⟩, c6, -⟩ := q1 l hl
    refine ⟨?_, c6⟩
    rw [e3, e4, e5, e7]
    exact ⟨c1, c2, c3, c5⟩
  · rw [e6 q (by omega), e7]
    exact d q hq hq2
  · obtain ⟨f1, f2, f3, f4⟩ := f x hx k hk
    rw [e9]
    exact ⟨f1, f2, hn _ f3, f3, f4⟩
  · rw [← g2 x hx, zCnt_kn]
    exact kn_cg m fun i _ => ⟨fun q => q.2, fun q => ⟨hn i q.1, q⟩⟩
  · rw [← g3, zMany_kn]
    exact kn_cg m fun i _ => ⟨fun q => q.2, fun q => ⟨hn i q, q⟩⟩
theorem RP.fromTop (H : RP z y m l h cl) (hc : c < 8) (h0 : ¬ h c = 0) : RH z (yLift y h c) m l (hDn h c) cl (cl c (h c - 1)) := by
  have hin := fun x k hx hk e => H.cl_in (c := x) (k := k) (c' := c) (k' := h c - 1) hx hk hc (by omega) e
  obtain ⟨⟨a1, a2, a3, a4⟩, b, q1, d, f, g1, g2, g3⟩ := H
  obtain ⟨p1, p2, p3, p4⟩ := f c hc (h c - 1) (by omega)
  have b4 := (b c hc).2
  have hpl : cl c (h c - 1) < l := by
    rcases Nat.lt_or_ge (cl c (h c - 1)) l with q | q
    · exact q
    · have e := (q1 _ p2).2.2.2.2.mpr q
      rw [p3] at e
      exact absurd e (by decide)
  have dn : ∀ x, hDn h c x ≤ h x := fun x => by
    unfold hDn
    split <;> omega
  refine ⟨?_, b.dn hc, fun q hq _ => ?_, ⟨hpl, ?_⟩, fun q hq hq2 => ?_, fun x hx k hk => ?_, fun q hq hn h1 => ?_, fun x hx => ?_, ?_⟩
  · rw [yLift_n (by decide)]
    exact ⟨a1, a2, a3, a4⟩
  · unfold RQ
    rw [yLift_n (by decide), yLift_n (by decide), yLift_n (by decide), yLift_n (by decide), yLift_n (by decide)]
    exact q1 q hq
  · obtain ⟨⟨c1, c2, c3, c4, c5⟩, c6, -⟩ := q1 _ p2
    unfold RQ0
    rw [yLift_n (by decide), yLift_n (by decide), yLift_n (by decide), yLift_n (by decide)]
    exact ⟨⟨c1, c2, c3, c5⟩, c6⟩
  · rw [yLift_n (by decide), yLift_n (by decide)]
    exact d q hq hq2
  · obtain ⟨f1, f2, f3, f4⟩ := f x hx k (Nat.lt_of_lt_of_le hk (dn x))
    rw [yLift_n (by decide)]
    refine ⟨f1, f2, fun e => ?_, f3, f4⟩
    obtain ⟨rfl, hk2⟩ := hin x k hx (Nat.lt_of_lt_of_le hk (dn x)) e
    unfold hDn at hk
    rw [if_pos rfl] at hk
    omega
  · obtain ⟨x, k, hx, hk, e⟩ := g1 q hq h1
    refine ⟨x, k, hx, ?_, e⟩
    unfold hDn
    by_cases hxc : x = c
    · subst hxc
      rw [if_pos rfl]
      rcases Nat.lt_or_ge k (h x - 1) with w | w
      · exact w
      · obtain rfl : k = h x - 1 := by omega
        exact absurd e.symm hn
    · rw [if_neg hxc]
      exact hk
  · have e := g2 x hx
    rw [zCnt_kn] at e
    unfold hDn
    by_cases hxc : x = c
    · subst hxc
      have e2 := kn_1 (A := fun i => i ≠ cl x (h x - 1) ∧ zp z i 3 = 1 ∧ zp z i 4 / 10 = nI x) (dA := fun _ => inferInstance) (B := fun i => zp z i 3 = 1 ∧ zp z i 4 / 10 = nI x) (dB := fun _ => inferInstance) m p2 (fun i _ hi => ⟨fun q => q.2, fun q => ⟨hi, q⟩⟩) (fun q => q.1 rfl) ⟨p3, by rw [p4, d10 (by omega) (by omega)]⟩
      rw [if_pos rfl]
      omega
    · rw [if_neg hxc, ← e]
      refine kn_cg m fun i _ => ⟨fun q => q.2, fun q => ⟨fun hi => ?_, q⟩⟩
      subst hi
      rw [p4] at q
      exact hxc (dc10 hc hx (by omega) q.2).symm
  · rw [zMany_kn] at g3
    have e := hSum_dn (h := h) (c := c) (by omega) 8
    rw [if_pos hc, ← g3] at e
    have e2 := kn_1 (A := fun i => i ≠ cl c (h c - 1) ∧ zp z i 3 = 1) (dA := fun _ => inferInstance) (B := fun i => zp z i 3 = 1) (dB := fun _ => inferInstance) m p2 (fun i _ hi => ⟨fun q => q.2, fun q => ⟨hi, q⟩⟩) (fun q => q.1 rfl) p3
    omega
theorem RH.put (H : RH z y m l h cl p) (hc : c < 8) (h4 : h c < 4) (e2 : y' 2 = y 2) (e3 : y' 3 = y 3) (e4 : y' 4 = y 4) (e5 : y' 5 = y 5) (e7 : y' 7 = y 7) (e6 : y' 6 p = 1) (e6n : ∀ q, q ≠ p → y' 6 q = y 6 q) (e9 : y' 9 (4 * c + h c) = nI p) (e9n : ∀ i, i ≠ 4 * c + h c → y' 9 i = y 9 i) (e10 : hOk y' (hUp h c)) : RP (zset (zset z p 3 1) p 4 (nI (10 * c + h c))) y' m l (hUp h c) (cUp cl h c p) := by
  obtain ⟨⟨a1, a2, a3, a4⟩, b, q1, ⟨q2, q3⟩, q4, f, g1, g2, g3⟩ := H
  have hpm : p < m := by omega
  have up : ∀ x, h x ≤ hUp h c x := fun x => by
    unfold hUp
    split <;> omega
  have ec : hUp h c c = h c + 1 := if_pos rfl
  refine ⟨by rw [e2]; exact ⟨a1, a2, a3, a4⟩, e10, fun q hq => ?_, fun q hq hq2 => ?_, fun x hx k hk => ?_, fun q hq h1 => ?_, fun x hx => ?_, ?_⟩
  · by_cases hqp : q = p
    · obtain ⟨⟨c1, c2, c3, c4⟩, c5⟩ := q3
      rw [hqp]
      unfold RQ
      rw [z34_3, z34_4, z34n 0 (by decide) (Or.inr (by decide)), z34n 1 (by decide) (Or.inr (by decide)), z34n 2 (by decide) (Or.inr (by decide)), z34n 5 (by decide) (Or.inr (by decide)), e3, e4, e5, e7]
      exact ⟨⟨c1, c2, c3, e6, c4⟩, c5, Or.inr (Or.inl rfl), fun z => absurd rfl z, fun z => absurd z (by decide), fun z => by omega⟩
    · have e := q1 q hq hqp
      unfold RQ at e ⊢
      rw [z34n 0 (by decide) (Or.inl hqp), z34n 1 (by decide) (Or.inl hqp), z34n 2 (by decide) (Or.inl hqp), z34n 3 (by decide) (Or.inl hqp), z34n 4 (by decide) (Or.inl hqp), z34n 5 (by decide) (Or.inl hqp), e3, e4, e5, e7, e6n q hqp]
      exact e
  · rw [e6n q (by omega), e7]
    exact q4 q hq hq2
  · by_cases hxk : x = c ∧ k = h c
    · obtain ⟨rfl, rfl⟩ := hxk
      rw [cUp_e]
      exact ⟨e9, hpm, z34_3, z34_4⟩
    · have hk2 : k < h x := by
        by_cases hxc : x = c
        · subst hxc
          rw [ec] at hk
          have : k ≠ h x := fun e => hxk ⟨rfl, e⟩
          omega
        · unfold hUp at hk
          rw [if_neg hxc] at hk
          exact hk
      obtain ⟨f1, f2, f3, f4, f5⟩ := f x hx k hk2
      have b4 := (b x hx).2
      rw [cUp_n hxk, e9n _ (by omega), z34n 3 (by decide) (Or.inl f3), z34n 4 (by decide) (Or.inl f3)]
      exact ⟨f1, f2, f4, f5⟩
  · by_cases hqp : q = p
    · exact ⟨c, h c, hc, by omega, cUp_e.trans hqp.symm⟩
    · rw [z34n 3 (by decide) (Or.inl hqp)] at h1
      obtain ⟨x, k, hx, hk, e⟩ := g1 q hq hqp h1
      refine ⟨x, k, hx, Nat.lt_of_lt_of_le hk (up x), ?_⟩
      rw [cUp_n (fun w => by obtain ⟨rfl, rfl⟩ := w; omega)]
      exact e
  · rw [zCnt_kn]
    have e := g2 x hx
    by_cases hxc : x = c
    · subst hxc
      rw [ec, ← e]
      exact kn_1 m hpm (fun i _ hi => by
        try dsimp only
        rw [z34n 3 (by decide) (Or.inl hi), z34n 4 (by decide) (Or.inl hi)]
        exact ⟨fun q => q.2, fun q => ⟨hi, q⟩⟩) (fun q => q.1 rfl) ⟨z34_3, by rw [z34_4, d10 (by omega) (by omega)]⟩
    · unfold hUp
      rw [if_neg hxc, ← e]
      refine kn_cg m fun i _ => ?_
      by_cases hi : i = p
      · rw [hi]
        refine ⟨fun q => ?_, fun q => absurd rfl q.1⟩
        rw [z34_4] at q
        exact absurd (dc10 hc hx (by omega) q.2).symm hxc
      · rw [z34n 3 (by decide) (Or.inl hi), z34n 4 (by decide) (Or.inl hi)]
        exact ⟨fun q => ⟨hi, q⟩, fun q => q.2⟩
  · rw [zMany_kn, hSum_up, if_pos hc, ← g3]
    exact kn_1 m hpm (fun i _ hi => by
      try dsimp only
      rw [z34n 3 (by decide) (Or.inl hi)]
      exact ⟨fun q => q.2, fun q => ⟨hi, q⟩⟩) (fun q => q.1 rfl) z34_3
theorem RH.won (H : RH z y m l h cl p) (e2 : y' 2 = y 2) (e3 : y' 3 = y 3) (e4 : y' 4 = y 4) (e5 : y' 5 = y 5) (e7 : y' 7 = y 7) (e6 : y' 6 p = 2) (e6n : ∀ q, q ≠ p → y' 6 q = y 6 q) (e9 : y' 9 = y 9) (e10 : y' 10 = y 10) : RP (zTake z p 2) y' m l h cl := by
  obtain ⟨⟨a1, a2, a3, a4⟩, b, q1, ⟨q2, q3⟩, q4, f, g1, g2, g3⟩ := H
  have hpm : p < m := by omega
  unfold zTake
  refine ⟨by rw [e2]; exact ⟨a1, a2, a3, a4⟩, b.of e10, fun q hq => ?_, fun q hq hq2 => ?_, fun x hx k hk => ?_, fun q hq h1 => ?_, fun x hx => ?_, ?_⟩
  · by_cases hqp : q = p
    · obtain ⟨⟨c1, c2, c3, c4⟩, c5⟩ := q3
      rw [hqp]
      unfold RQ
      rw [z34_3, z34_4, z34n 0 (by decide) (Or.inr (by decide)), z34n 1 (by decide) (Or.inr (by decide)), z34n 2 (by decide) (Or.inr (by decide)), z34n 5 (by decide) (Or.inr (by decide)), e3, e4, e5, e7]
      exact ⟨⟨c1, c2, c3, e6, c4⟩, c5, Or.inr (Or.inr rfl), fun _ => rfl, fun z => absurd z (by decide), fun z => by omega⟩
    · have e := q1 q hq hqp
      unfold RQ at e ⊢
      rw [z34n 0 (by decide) (Or.inl hqp), z34n 1 (by decide) (Or.inl hqp), z34n 2 (by decide) (Or.inl hqp), z34n 3 (by decide) (Or.inl hqp), z34n 4 (by decide) (Or.inl hqp), z34n 5 (by decide) (Or.inl hqp), e3, e4, e5, e7, e6n q hqp]
      exact e
  · rw [e6n q (by omega), e7]
    exact q4 q hq hq2
  · obtain ⟨f1, f2, f3, f4, f5⟩ := f x hx k hk
    rw [e9, z34n 3 (by decide) (Or.inl f3), z34n 4 (by decide) (Or.inl f3)]
    exact ⟨f1, f2, f4, f5⟩
  · have hqp : q ≠ p := fun e => by
      rw [e, z34_3] at h1
      exact absurd h1 (by decide)
    rw [z34n 3 (by decide) (Or.inl hqp)] at h1
    exact g1 q hq hqp h1
  · rw [zCnt_kn, ← g2 x hx]
    refine kn_cg m fun i _ => ?_
    by_cases hi : i = p
    · rw [hi]
      refine ⟨fun q => ?_, fun q => absurd rfl q.1⟩
      rw [z34_3] at q
      exact absurd q.1 (by decide)
    · rw [z34n 3 (by decide) (Or.inl hi), z34n 4 (by decide) (Or.inl hi)]
      exact ⟨fun q => ⟨hi, q⟩, fun q => q.2⟩
  · rw [zMany_kn, ← g3]
    refine kn_cg m fun i _ => ?_
    by_cases hi : i = p
    · rw [hi]
      refine ⟨fun q => ?_, fun q => absurd rfl q.1⟩
      rw [z34_3] at q
      exact absurd q (by decide)
    · rw [z34n 3 (by decide) (Or.inl hi)]
      exact ⟨fun q => ⟨hi, q⟩, fun q => q.2⟩
end R2
