/-! the relation: what was won, numbers, ranges, the book -/
def yWon (y : Yy) : Nat → Nat
  | 0 => 0
  | i + 1 => yWon y i + if y 6 i = 2 then 1 else 0
theorem yWon_cg {y y' : Yy} : ∀ {m : Nat}, (∀ i, i < m → y' 6 i = y 6 i) → yWon y' m = yWon y m
  | 0, _ => rfl
  | m + 1, h => by
    unfold yWon
    rw [yWon_cg (y := y) (y' := y') (fun i hi => h i (by omega)), h m (by omega)]
theorem yVal_cg {y y' : Yy} : ∀ {m : Nat}, (∀ i, i < m → y' 6 i = y 6 i ∧ y' 5 i = y 5 i) → yVal y' m = yVal y m
  | 0, _ => rfl
  | m + 1, h => by
    unfold yVal
    rw [yVal_cg (y := y) (y' := y') (fun i hi => h i (by omega)), (h m (by omega)).1, (h m (by omega)).2]
theorem yWon_1 {y y' : Yy} {p : Nat} : ∀ {m : Nat}, p < m → (∀ i, i < m → i ≠ p → y' 6 i = y 6 i) → y 6 p ≠ 2 → y' 6 p = 2 → yWon y' m = yWon y m + 1
  | 0, h, _, _, _ => absurd h (Nat.not_lt_zero _)
  | m + 1, hp, h, ha, hb => by
    unfold yWon
    by_cases q : p = m
    · subst q
      rw [yWon_cg (y := y) (y' := y') (fun i hi => h i (by omega) (by omega)), if_neg ha, if_pos hb]
    · rw [yWon_1 (y := y) (y' := y') (by omega) (fun i hi hn => h i (by omega) hn) ha hb, h m (by omega) (fun z => q z.symm)]
      omega
theorem yVal_1 {y y' : Yy} {p : Nat} : ∀ {m : Nat}, p < m → (∀ i, i < m → i ≠ p → y' 6 i = y 6 i) → (∀ i, i < m → y' 5 i = y 5 i) → y 6 p ≠ 2 → y' 6 p = 2 → yVal y' m = yVal y m + y 5 p
  | 0, h, _, _, _, _ => absurd h (Nat.not_lt_zero _)
  | m + 1, hp, h, h5, ha, hb => by
    unfold yVal
    by_cases q : p = m
    · subst q
      rw [yVal_cg (y := y) (y' := y') (fun i hi => ⟨h i (by omega) (by omega), h5 i (by omega)⟩), if_neg ha, if_pos hb, h5 p (by omega)]
    · rw [yVal_1 (y := y) (y' := y') (by omega) (fun i hi hn => h i (by omega) hn) (fun i hi => h5 i (by omega)) ha hb, h m (by omega) (fun z => q z.symm), h5 m (by omega)]
      by_cases q2 : y 6 m = 2
      · rw [if_pos q2, if_pos q2, Int32.add_assoc, Int32.add_comm (y 5 p), ← Int32.add_assoc]
      · rw [if_neg q2, if_neg q2]
def RN (z : Zz) (y : Yy) : Prop := (y 0 0 = z 6 ∧ y 0 1 = z 7 ∧ y 0 2 = z 8 ∧ y 0 3 = z 9 ∧ y 0 4 = z 10 ∧ y 0 5 = z 12 ∧ y 0 6 = z 14) ∧ ∀ j, j < 6 → y 1 j = z j
def RV (z : Zz) (y : Yy) (m : Nat) : Prop := z 11 = nI (yWon y m) ∧ z 13 = yVal y m
def RS (b : Nat) (z : Zz) : Prop := (∀ j, j < 6 → ¬ z j < 0) ∧ (∃ a, z 0 = nI a ∧ 1 ≤ a ∧ a ≤ 9) ∧ (∃ a, z 1 = nI a ∧ a ≤ 200) ∧ (∃ a, z 5 = nI a ∧ a ≤ 8) ∧ (∃ a, z 7 = nI a ∧ a ≤ b)
def RC (b : Nat) (z : Zz) (y : Yy) (m l : Nat) (h : Nat → Nat) (cl : Nat → Nat → Nat) : Prop := RP z y m l h cl ∧ RN z y ∧ RV z y m ∧ RS b z ∧ z 15 = nI m
def RB (z : Zz) (y : Yy) (t s : Nat) : Prop := (y 11 1 = nI t ∧ t < 10 ∧ y 11 0 = nI s ∧ s ≤ 10) ∧ z 160 = nI s ∧ ∀ r, r < s → ∀ k, k < 4 → z (161 + 4 * r + k) = y 12 (4 * ((t + 10 - r) % 10) + k)
def RR (b : Nat) (z : Zz) (y : Yy) (m l t s : Nat) (h : Nat → Nat) (cl : Nat → Nat → Nat) : Prop := RC b z y m l h cl ∧ RB z y t s
theorem bI_cg {p q : Prop} [Decidable p] [Decidable q] (h : p ↔ q) : bI p = bI q := by
  by_cases e : p
  · rw [bI_t e, bI_t (h.mp e)]
  · rw [bI_f e, bI_f (fun w => e (h.mpr w))]
theorem zBook_at {z : Zz} {a b c e : Int32} : zBook z a b c e 160 = (if z 160 < 10 then z 160 + 1 else 10) ∧ zBook z a b c e 161 = a ∧ zBook z a b c e 162 = b ∧ zBook z a b c e 163 = c ∧ zBook z a b c e 164 = e ∧ ∀ j, 164 < j → j ≤ 200 → zBook z a b c e j = z (j - 4) := by
  unfold zBook
  refine ⟨pk_us, ?_, ?_, ?_, ?_, fun j h1 h2 => ?_⟩
  · rw [pk_un (by decide), pk_un (by decide), pk_un (by decide), pk_un (by decide), pk_us]
  · rw [pk_un (by decide), pk_un (by decide), pk_un (by decide), pk_us]
  · rw [pk_un (by decide), pk_un (by decide), pk_us]
  · rw [pk_un (by decide), pk_us]
  · rw [pk_un (by omega), pk_un (by omega), pk_un (by omega), pk_un (by omega), pk_un (by omega)]
    exact if_pos ⟨by omega, h2⟩
theorem up4 {f : Nat → Int32} {T : Nat} {a b c e : Int32} : upd (upd (upd (upd f (4 * T) a) (4 * T + 1) b) (4 * T + 2) c) (4 * T + 3) e (4 * T + 0) = a ∧ upd (upd (upd (upd f (4 * T) a) (4 * T + 1) b) (4 * T + 2) c) (4 * T + 3) e (4 * T + 1) = b ∧ upd (upd (upd (upd f (4 * T) a) (4 * T + 1) b) (4 * T + 2) c) (4 * T + 3) e (4 * T + 2) = c ∧ upd (upd (upd (upd f (4 * T) a) (4 * T + 1) b) (4 * T + 2) c) (4 * T + 3) e (4 * T + 3) = e ∧ ∀ j, (j < 4 * T ∨ 4 * T + 3 < j) → upd (upd (upd (upd f (4 * T) a) (4 * T + 1) b) (4 * T + 2) c) (4 * T + 3) e j = f j := by
  refine ⟨?_, ?_, ?_, pk_us, fun j hj => ?_⟩
  · rw [pk_un (by omega), pk_un (by omega), pk_un (by omega)]
    exact pk_us
  · rw [pk_un (by omega), pk_un (by omega), pk_us]
  · rw [pk_un (by omega), pk_us]
  · rw [pk_un (by omega), pk_un (by omega), pk_un (by omega), pk_un (by omega)]
section R3
variable {z z' : Zz} {y y' : Yy} {b m l p c t s : Nat} {h : Nat → Nat} {cl : Nat → Nat → Nat}
theorem RC.cg (H : RC b z y m l h cl) (e : ∀ j, j < 160 → z' j = z j) (g : ∀ i, i ≤ 10 → ∀ k, k < yL i → y' i k = y i k) : RC b z' y' m l h cl := by
  obtain ⟨hP, ⟨⟨n0, n1, n2, n3, n4, n5, n6⟩, n7⟩, ⟨v1, v2⟩, ⟨s1, s2, s3, s4, s5⟩, e15⟩ := H
  have h24 := hP.1.2.1
  refine ⟨hP.eq (fun p j hp hj => e (16 + 6 * p + j) (by omega)) (fun i _ h10 k hk => g i h10 k hk), ⟨⟨?_, ?_, ?_, ?_, ?_, ?_, ?_⟩, fun j hj => ?_⟩, ⟨?_, ?_⟩, ⟨fun j hj => ?_, ?_, ?_, ?_, ?_⟩, ?_⟩
  · rw [g 0 (by decide) 0 (by decide), e 6 (by decide)]; exact n0
  · rw [g 0 (by decide) 1 (by decide), e 7 (by decide)]; exact n1
  · rw [g 0 (by decide) 2 (by decide), e 8 (by decide)]; exact n2
  · rw [g 0 (by decide) 3 (by decide), e 9 (by decide)]; exact n3
  · rw [g 0 (by decide) 4 (by decide), e 10 (by decide)]; exact n4
  · rw [g 0 (by decide) 5 (by decide), e 12 (by decide)]; exact n5
  · rw [g 0 (by decide) 6 (by decide), e 14 (by decide)]; exact n6
  · rw [g 1 (by decide) j hj, e j (by omega)]; exact n7 j hj
  · rw [e 11 (by decide), yWon_cg (y := y) (fun i hi => g 6 (by decide) i (show i < 24 by omega))]; exact v1
  · rw [e 13 (by decide), yVal_cg (y := y) (fun i hi => ⟨g 6 (by decide) i (show i < 24 by omega), g 5 (by decide) i (show i < 24 by omega)⟩)]; exact v2
  · rw [e j (by omega)]; exact s1 j hj
  · rw [e 0 (by decide)]; exact s2
  · rw [e 1 (by decide)]; exact s3
  · rw [e 5 (by decide)]; exact s4
  · rw [e 7 (by decide)]; exact s5
  · rw [e 15 (by decide)]; exact e15
theorem RB.cg (H : RB z y t s) (e : ∀ j, 160 ≤ j → j < 201 → z' j = z j) (g : ∀ i, 11 ≤ i → i < 13 → ∀ k, k < yL i → y' i k = y i k) : RB z' y' t s := by
  obtain ⟨⟨a1, a2, a3, a4⟩, a5, a6⟩ := H
  refine ⟨⟨?_, a2, ?_, a4⟩, ?_, fun r hr k hk => ?_⟩
  · rw [g 11 (by decide) (by decide) 1 (by decide)]; exact a1
  · rw [g 11 (by decide) (by decide) 0 (by decide)]; exact a3
  · rw [e 160 (by decide) (by decide)]; exact a5
  · rw [e _ (by omega) (by omega), g 12 (by decide) (by decide) _ (show 4 * ((t + 10 - r) % 10) + k < 40 by omega)]
    exact a6 r hr k hk
theorem nS_eq (hs : s ≤ 10) : (if nI s < 10 then nI s + 1 else (10 : Int32)) = nI (nS s) := by
  unfold nS
  have e : nI s < 10 ↔ s < 10 := nI_ltI (a := s) (b := 10) (by omega) (by decide)
  by_cases q : s < 10
  · rw [if_pos q, if_pos (e.mpr q), nI_1]
  · rw [if_neg q, if_neg (fun w => q (e.mp w))]
    rfl
theorem RB.book (H : RB z y t s) (a b c e : Int32) : RB (zBook z a b c e) (yBook y t s a b c e) ((t + 1) % 10) (nS s) := by
  obtain ⟨⟨a1, a2, a3, a4⟩, a5, a6⟩ := H
  obtain ⟨q0, q1, q2, q3, q4, q5⟩ := zBook_at (z := z) (a := a) (b := b) (c := c) (e := e)
  refine ⟨⟨rfl, Nat.mod_lt _ (by decide), rfl, nS_le⟩, ?_, fun r hr k hk => ?_⟩
  · rw [q0, a5]
    exact nS_eq a4
  · have hr2 : r < 10 ∧ (1 ≤ r → r - 1 < s) := by
      unfold nS at hr
      split at hr <;> omega
    show _ = upd (upd (upd (upd (y 12) (4 * ((t + 1) % 10)) a) (4 * ((t + 1) % 10) + 1) b) (4 * ((t + 1) % 10) + 2) c) (4 * ((t + 1) % 10) + 3) e _
    obtain ⟨p0, p1, p2, p3, p4⟩ := up4 (f := y 12) (T := (t + 1) % 10) (a := a) (b := b) (c := c) (e := e)
    rcases Nat.eq_zero_or_pos r with h0 | h0
    · subst h0
      rw [show ((t + 1) % 10 + 10 - 0) % 10 = (t + 1) % 10 by omega]
      have hk4 : k = 0 ∨ k = 1 ∨ k = 2 ∨ k = 3 := by omega
      rcases hk4 with rfl | rfl | rfl | rfl
      · exact q1.trans p0.symm
      · exact q2.trans p1.symm
      · exact q3.trans p2.symm
      · exact q4.trans p3.symm
    · rw [q5 _ (by omega) (by omega), p4 _ (by omega)]
      have e1 := a6 (r - 1) (hr2.2 h0) k hk
      rw [show 161 + 4 * (r - 1) + k = 161 + 4 * r + k - 4 by omega, show (t + 10 - (r - 1)) % 10 = ((t + 1) % 10 + 10 - r) % 10 by omega] at e1
      exact e1
/-- what the class keeps -/
theorem RR.ky (H : RR b z y m l t s h cl) : KY y m l t s h cl := by
  obtain ⟨⟨⟨a, b, c, d, f, g⟩, -⟩, ⟨a1, a2, a3, a4⟩, -⟩ := H
  exact ⟨a, b, fun x hx k hk => ⟨(f x hx k hk).1, (f x hx k hk).2.1⟩, a1, a2, a3, a4⟩
theorem RR.book (H : RR b z y m l t s h cl) (v a c e : Int32) : RR b (zBook z v a c e) (yBook y t s v a c e) m l ((t + 1) % 10) (nS s) h cl := by
  refine ⟨H.1.cg (fun j hj => zBook_lo hj) (fun i hi k hk => ?_), H.2.book v a c e⟩
  show yu (yu y 11 _) 12 _ i k = _
  rw [yu_n (by omega), yu_n (by omega)]
theorem RR.eq (H : RR b z y m l t s h cl) (e : ∀ j, j < 201 → z' j = z j) (g : yEq y' y) : RR b z' y' m l t s h cl := ⟨H.1.cg (fun j hj => e j (by omega)) (fun i hi k hk => g i (by omega) k hk), H.2.cg (fun j _ hj => e j hj) (fun i _ hi k hk => g i hi k hk)⟩
theorem RC.up {b' : Nat} (H : RC b z y m l h cl) (hb : b ≤ b') : RC b' z y m l h cl := by
  obtain ⟨hP, hN, hV, ⟨s1, s2, s3, s4, ⟨si, e7, h7⟩⟩, e15⟩ := H
  exact ⟨hP, hN, hV, ⟨s1, s2, s3, s4, ⟨si, e7, by omega⟩⟩, e15⟩
theorem RR.up {b' : Nat} (H : RR b z y m l t s h cl) (hb : b ≤ b') : RR b' z y m l t s h cl := ⟨H.1.up hb, H.2⟩
end R3
