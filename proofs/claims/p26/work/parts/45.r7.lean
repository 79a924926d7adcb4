/-! the answers are the same: places, at, lighter, by value -/
theorem sp1_n {y : Yy} {h : Nat → Nat} {p : Int32} {c : Nat} {r : Int32} (e : ∀ k, k < h c → y 9 (4 * c + k) ≠ p) : ∀ j, j ≤ h c → ySp.ySp1 y h p c j r = r
  | 0, _ => rfl
  | j + 1, hj => by
    unfold ySp.ySp1
    rw [if_neg (e _ (by omega))]
    exact sp1_n e j (by omega)
theorem sp1_s {y : Yy} {h : Nat → Nat} {p : Int32} {c k : Nat} {r : Int32} (hk : k < h c) (e : y 9 (4 * c + k) = p) (e2 : ∀ x, x < h c → x ≠ k → y 9 (4 * c + x) ≠ p) : ∀ j, j ≤ h c → h c - j ≤ k → ySp.ySp1 y h p c j r = nI (10 * c + k)
  | 0, _, h2 => absurd hk (by omega)
  | j + 1, hj, h2 => by
    unfold ySp.ySp1
    by_cases q : h c - (j + 1) = k
    · rw [q, if_pos e]
    · rw [if_neg (e2 _ (by omega) q)]
      exact sp1_s hk e e2 j (by omega) (by omega)
theorem sp_n {y : Yy} {h : Nat → Nat} {p : Int32} (e : ∀ c, c < 8 → ∀ k, k < h c → y 9 (4 * c + k) ≠ p) : ∀ i, i ≤ 8 → ySp y h p i = -6
  | 0, _ => rfl
  | i + 1, hi => by
    unfold ySp
    rw [sp1_n (e (8 - (i + 1)) (by omega)) _ (Nat.le_refl _)]
    exact sp_n e i (by omega)
theorem sp_s {y : Yy} {h : Nat → Nat} {p : Int32} {c k : Nat} (hc : c < 8) (hk : k < h c) (e : y 9 (4 * c + k) = p) (e2 : ∀ x, x < 8 → ∀ j, j < h x → ¬ (x = c ∧ j = k) → y 9 (4 * x + j) ≠ p) : ∀ i, i ≤ 8 → 8 - i ≤ c → ySp y h p i = nI (10 * c + k)
  | 0, _, h2 => absurd hc (by omega)
  | i + 1, hi, h2 => by
    unfold ySp
    by_cases q : 8 - (i + 1) = c
    · rw [q]
      exact sp1_s hk e (fun x hx hn => e2 c hc x hx fun w => hn w.2) _ (Nat.le_refl _) (by omega)
    · rw [sp1_n (fun j hj => e2 _ (by omega) j hj fun w => q w.1) _ (Nat.le_refl _)]
      exact sp_s hc hk e e2 i (by omega) (by omega)
theorem kn_lt {A B : Nat → Prop} {dA : ∀ i, Decidable (A i)} {dB : ∀ i, Decidable (B i)} {p : Nat} : ∀ m, p < m → (∀ i, i < m → A i → B i) → ¬ A p → B p → kn A dA m < kn B dB m := by
  have le : ∀ m, (∀ i, i < m → A i → B i) → kn A dA m ≤ kn B dB m := by
    intro m
    induction m with
    | zero => intro _; exact Nat.le_refl _
    | succ m ih =>
      intro h
      have e := ih fun i hi => h i (by omega)
      have e2 := h m (by omega)
      unfold kn
      by_cases q : A m
      · rw [if_pos q, if_pos (e2 q)]
        omega
      · rw [if_neg q]
        omega
  intro m
  induction m with
  | zero => intro h; exact absurd h (Nat.not_lt_zero _)
  | succ m ih =>
    intro hp h ha hb
    unfold kn
    by_cases q : p = m
    · subst q
      rw [if_neg ha, if_pos hb]
      have := le p fun i hi => h i (by omega)
      omega
    · have e := ih (by omega) (fun i hi => h i (by omega)) ha hb
      have e2 := h m (by omega)
      by_cases q : A m
      · rw [if_pos q, if_pos (e2 q)]
        omega
      · rw [if_neg q]
        omega
theorem yBf_i {y : Yy} {p q : Nat} : yBf y p q ↔ (y 5 q).toInt < (y 5 p).toInt ∨ ((y 5 p).toInt = (y 5 q).toInt ∧ ((y 4 p).toInt < (y 4 q).toInt ∨ ((y 4 p).toInt = (y 4 q).toInt ∧ p < q))) := by
  unfold yBf
  rw [Int32.lt_iff_toInt_lt, Int32.lt_iff_toInt_lt, Int32.toInt_inj, Int32.toInt_inj]
theorem yRk_kn {y : Yy} {p : Nat} : ∀ m, yRk y p m = kn (fun i => y 6 i = 1 ∧ yBf y i p) (fun i => @instDecidableAnd _ _ _ (yBf_d y i p)) m
  | 0 => rfl
  | m + 1 => by
    have e := yRk_kn (y := y) (p := p) m
    unfold kn
    by_cases q : y 6 m = 1 ∧ yBf y m p
    · rw [yRk_t q.1 q.2, e, if_pos q]
    · rw [yRk_f q, e, if_neg q]
      rfl
theorem yRk_ne {y : Yy} {m p q : Nat} (hp : p < m) (hq : q < m) (p1 : y 6 p = 1) (q1 : y 6 q = 1) (hn : p ≠ q) : yRk y p m ≠ yRk y q m := by
  have key : ∀ a b, a < m → b < m → y 6 a = 1 → yBf y a b → yRk y a m < yRk y b m := fun a b ha hb a1 hab => by
    rw [yRk_kn, yRk_kn]
    refine kn_lt (p := a) m ha (fun i _ hi => ⟨hi.1, ?_⟩) (fun w => ?_) ⟨a1, hab⟩
    · have h1 := yBf_i.mp hi.2
      have h2 := yBf_i.mp hab
      refine yBf_i.mpr ?_
      omega
    · have h1 := yBf_i.mp w.2
      omega
  have tot : yBf y p q ∨ yBf y q p := by
    rw [yBf_i, yBf_i]
    omega
  rcases tot with w | w
  · exact Nat.ne_of_lt (key p q hp hq p1 w)
  · exact Nat.ne_of_gt (key q p hq hp q1 w)
theorem zBv_s {z : Zz} {m : Nat} {r : Int32} {q : Nat} : ∀ {n : Nat}, q < n → zp z q 3 = 1 → nI (zRk z q m) = r → (∀ i, i < n → i ≠ q → ¬ (zp z i 3 = 1 ∧ nI (zRk z i m) = r)) → zBv z m r n = nI q
  | 0, h, _, _, _ => absurd h (Nat.not_lt_zero _)
  | n + 1, hq, h1, h2, h3 => by
    unfold zBv
    by_cases e : n = q
    · subst e
      rw [if_pos ⟨h1, h2⟩]
    · rw [if_neg (h3 n (by omega) e)]
      exact zBv_s (by omega) h1 h2 fun i hi hn => h3 i (by omega) hn
theorem zBv_n {z : Zz} {m : Nat} {r : Int32} : ∀ {n : Nat}, (∀ i, i < n → ¬ (zp z i 3 = 1 ∧ nI (zRk z i m) = r)) → zBv z m r n = -1
  | 0, _ => rfl
  | n + 1, h => by
    unfold zBv
    rw [if_neg (h n (by omega))]
    exact zBv_n fun i hi => h i (by omega)
theorem yBv_s {y : Yy} {m : Nat} {r : Int32} {q : Nat} : ∀ {k i : Nat}, i ≤ q → q < i + k → y 6 q = 1 → nI (yRk y q m) = r → (∀ x, x < i + k → x ≠ q → ¬ (y 6 x = 1 ∧ nI (yRk y x m) = r)) → yBv y m r k i = nI q
  | 0, i, h, h2, _, _, _ => absurd h2 (by omega)
  | k + 1, i, h, h2, h3, h4, h5 => by
    unfold yBv
    by_cases e : i = q
    · subst e
      rw [if_pos ⟨h3, h4⟩]
    · rw [if_neg (h5 i (by omega) e)]
      exact yBv_s (by omega) (by omega) h3 h4 fun x hx hn => h5 x (by omega) hn
theorem yBv_n {y : Yy} {m : Nat} {r : Int32} : ∀ {k i : Nat}, (∀ x, x < i + k → ¬ (y 6 x = 1 ∧ nI (yRk y x m) = r)) → yBv y m r k i = -1
  | 0, _, _ => rfl
  | k + 1, i, h => by
    unfold yBv
    rw [if_neg (h i (by omega))]
    exact yBv_n fun x hx => h x (by omega)
theorem sub0 {a b : Nat} (ha : a < 100) (hb : b < 100) : nI a - nI b = 0 ↔ a = b := by
  rw [← Int32.toInt_inj, pk_sub_toInt (by omega) (by omega), show (0 : Int32).toInt = 0 from rfl]
  omega
theorem subp {a b : Nat} (ha : a < 100) (hb : b < 100) : 0 < nI a - nI b ↔ b < a := by
  rw [Int32.lt_iff_toInt_lt, pk_sub_toInt (by omega) (by omega), show (0 : Int32).toInt = 0 from rfl]
  omega
theorem pOk_n {k g v : Int32} (h : pOk k g v) : ∃ a b, g = nI a ∧ a < 100 ∧ v = nI b ∧ b < 100 := by
  obtain ⟨-, ⟨g1, g2⟩, v1, v2⟩ := h
  obtain ⟨a, ha, e1⟩ := nI_of3 (n := 60) (by decide) (Int32.le_trans (by decide) g1) g2
  obtain ⟨b, hb, e2⟩ := nI_of3 (n := 99) (by decide) (Int32.le_trans (by decide) v1) v2
  exact ⟨a, b, e1, by omega, e2, by omega⟩
section R7
variable {z z' : Zz} {y y' : Yy} {b m l p c t s : Nat} {h : Nat → Nat} {cl : Nat → Nat → Nat}
theorem RP.spot (H : RP z y m l h cl) (hp : p < m) : ySp y h (nI p) 8 = zp z p 4 := by
  have m24 := H.1.2.1
  by_cases q : zp z p 3 = 1
  · obtain ⟨c, k, hc, hk, rfl⟩ := H.2.2.2.2.2.1 p hp q
    obtain ⟨f1, f2, f3, f4⟩ := H.2.2.2.2.1 c hc k hk
    rw [f4]
    refine sp_s hc hk f1 (fun x hx j hj hn w => hn ?_) 8 (by omega) (by omega)
    obtain ⟨g1, g2, -⟩ := H.2.2.2.2.1 x hx j hj
    rw [g1] at w
    exact H.cl_in hx hj hc hk ((nI_eq (by omega) (by omega)).mp w)
  · rw [(H.2.2.1 p hp).2.2.2.1 q]
    refine sp_n (fun x hx j hj w => ?_) 8 (by omega)
    obtain ⟨g1, g2, g3, -⟩ := H.2.2.2.2.1 x hx j hj
    rw [g1] at w
    have e := (nI_eq (by omega) (by omega)).mp w
    rw [e] at g3
    exact q g3
theorem RP.of (H : RP z y m l h cl) (hp : p < m) {j : Nat} (hj : j < 6) : zp z p j = yOf y h p j := by
  obtain ⟨⟨c1, c2, c3, c4, c5⟩, -⟩ := H.2.2.1 p hp
  have k6 : j = 0 ∨ j = 1 ∨ j = 2 ∨ j = 3 ∨ j = 4 ∨ j = 5 := by omega
  rcases k6 with rfl | rfl | rfl | rfl | rfl | rfl
  · exact c1.symm
  · exact c2.symm
  · exact c3.symm
  · exact c4.symm
  · exact (H.spot hp).symm
  · exact c5.symm
theorem RP.atA (H : RP z y m l h cl) (hc : c < 8) {k : Int32} (hk : 0 ≤ k ∧ k ≤ 3) : zAt z (10 * nI c + k) m = yAt y h c k := by
  obtain ⟨j, hj, rfl⟩ := nI_of3 (n := 3) (by decide) hk.1 hk.2
  have b4 := H.h4 c hc
  unfold yAt
  rw [n10, nI_add, nI_clamp (by omega)]
  by_cases q : j < h c
  · rw [if_pos ⟨hk.1, nI_lt q (by omega)⟩, H.at hc q, (H.2.2.2.2.1 c hc j q).1]
  · rw [if_neg (fun w => q ((nI_ltI (by omega) (by omega)).mp w.2)), H.at_n hc (by omega) (by omega)]
theorem RP.atB (H : RP z y m l h cl) (hc : c < 8) {k : Int32} (hk : ¬ (0 ≤ k ∧ k ≤ 3)) : yAt y h c k = -6 := by
  have b4 := H.h4 c hc
  unfold yAt
  refine if_neg fun w => hk ⟨w.1, ?_⟩
  have e := w.2
  rw [Int32.lt_iff_toInt_lt, nI_toInt (by omega)] at e
  rw [Int32.le_iff_toInt_le, show (3 : Int32).toInt = 3 from rfl]
  omega
theorem RP.li (H : RP z y m l h cl) {v : Int32} : ∀ n, n ≤ m → zLi z v n = yUp y v n
  | 0, _ => rfl
  | n + 1, hn => by
    obtain ⟨⟨c1, c2, c3, c4, c5⟩, -⟩ := H.2.2.1 n (by omega)
    have e := H.li (v := v) n (by omega)
    unfold zLi yUp
    rw [e, c4, c2]
    by_cases q : zp z n 3 = 1 ∧ zp z n 1 ≤ v
    · rw [if_pos q, if_pos q]
    · rw [if_neg q, if_neg q]
      rfl
theorem RP.ahd (H : RP z y m l h cl) {i : Nat} (hi : i < m) (hp : p < m) : (i ≠ p ∧ (0 < zE z i p ∨ (zE z i p = 0 ∧ i < p))) ↔ yBf y i p := by
  obtain ⟨⟨c1, c2, c3, c4, c5⟩, c6, -⟩ := H.2.2.1 i hi
  obtain ⟨⟨d1, d2, d3, d4, d5⟩, d6, -⟩ := H.2.2.1 p hp
  obtain ⟨a, v, ea, ha, ev, hv⟩ := pOk_n c6
  obtain ⟨a', v', ea', ha', ev', hv'⟩ := pOk_n d6
  have hne : i = p → a = a' ∧ v = v' := by
    rintro rfl
    exact ⟨(nI_eq (by omega) (by omega)).mp (ea.symm.trans ea'), (nI_eq (by omega) (by omega)).mp (ev.symm.trans ev')⟩
  rw [yBf_i]
  rw [c2, c3, d2, d3]
  unfold zE
  rw [ea, ev, ea', ev', nI_toInt (by omega), nI_toInt (by omega), nI_toInt (by omega), nI_toInt (by omega)]
  by_cases q : v = v'
  · rw [if_pos ((sub0 hv hv').mpr q), subp ha' ha, sub0 ha' ha]
    omega
  · rw [if_neg (fun w => q ((sub0 hv hv').mp w)), subp hv hv', sub0 hv hv']
    omega
theorem RP.rk (H : RP z y m l h cl) (hp : p < m) : ∀ n, n ≤ m → zRk z p n = yRk y p n
  | 0, _ => rfl
  | n + 1, hn => by
    have e := H.rk hp n (by omega)
    have c4 := (H.2.2.1 n (by omega)).1.2.2.2.1
    have e2 := H.ahd (i := n) (by omega) hp
    by_cases q : y 6 n = 1 ∧ yBf y n p
    · rw [yRk_t q.1 q.2, zRk_s, e, if_pos ⟨c4.symm.trans q.1, e2.mpr q.2⟩]
    · rw [yRk_f q, zRk_s, e, if_neg (fun w => q ⟨c4.trans w.1, e2.mp w.2⟩)]
      rfl
theorem RP.bv (H : RP z y m l h cl) (r : Int32) : zBv z m r m = yBv y m r m 0 := by
  have m24 := H.1.2.1
  by_cases q : ∃ i, i < m ∧ (y 6 i = 1 ∧ nI (yRk y i m) = r)
  · obtain ⟨i, hi, q1, q2⟩ := q
    have c4 := (H.2.2.1 i hi).1.2.2.2.1
    have un : ∀ x, x < m → x ≠ i → ¬ (y 6 x = 1 ∧ nI (yRk y x m) = r) := fun x hx hn w => by
      have k1 := yRk_le y x m
      have k2 := yRk_le y i m
      exact yRk_ne hx hi w.1 q1 hn ((nI_eq (by omega) (by omega)).mp (w.2.trans q2.symm))
    rw [yBv_s (q := i) (by omega) (by omega) q1 q2 (fun x hx hn => un x (by omega) hn)]
    refine zBv_s hi (c4.symm.trans q1) ?_ fun x hx hn w => un x hx hn ⟨?_, ?_⟩
    · rw [H.rk hi m (Nat.le_refl _)]
      exact q2
    · exact (H.2.2.1 x hx).1.2.2.2.1.trans w.1
    · rw [← H.rk hx m (Nat.le_refl _)]
      exact w.2
  · rw [yBv_n (fun x hx w => q ⟨x, by omega, w⟩)]
    refine zBv_n fun x hx w => q ⟨x, hx, ?_, ?_⟩
    · exact (H.2.2.1 x hx).1.2.2.2.1.trans w.1
    · rw [← H.rk hx m (Nat.le_refl _)]
      exact w.2
theorem RP.set (H : RP z y m l h cl) {v : Int32} : ∀ n, n ≤ m → zSet z v n = ySet y v n
  | 0, _ => rfl
  | n + 1, hn => by
    have c4 := (H.2.2.1 n (by omega)).1.2.2.2.1
    have e := H.set (v := v) n (by omega)
    unfold zSet ySet
    rw [e, c4]
    by_cases q : zp z n 3 = v
    · rw [if_pos q, if_pos q]
    · rw [if_neg q, if_neg q, Int32.or_zero]
theorem RP.em (H : RP z y m l h cl) : ∀ n, n ≤ 8 → zEm z m n = hEm h n
  | 0, _ => rfl
  | n + 1, hn => by
    have e := H.em n (by omega)
    unfold zEm hEm
    rw [e, H.2.2.2.2.2.2.1 n (by omega)]
    by_cases q : h n = 0
    · rw [if_pos q, if_pos q]
    · rw [if_neg q, if_neg q, Int32.or_zero]
end R7
