/-! the relation of the reference's numbers and the class's rows: prizes and columns -/
def kn (A : Nat → Prop) (dA : ∀ i, Decidable (A i)) : Nat → Nat
  | 0 => 0
  | i + 1 => kn A dA i + @ite Nat (A i) (dA i) 1 0
theorem kn_cg {A B : Nat → Prop} {dA : ∀ i, Decidable (A i)} {dB : ∀ i, Decidable (B i)} : ∀ m, (∀ i, i < m → (A i ↔ B i)) → kn A dA m = kn B dB m
  | 0, _ => rfl
  | m + 1, h => by
    have e := kn_cg (dA := dA) (dB := dB) m (fun i hi => h i (by omega))
    have h1 := h m (by omega)
    unfold kn
    rw [e]
    by_cases q : A m
    · rw [if_pos q, if_pos (h1.mp q)]
    · rw [if_neg q, if_neg (fun z => q (h1.mpr z))]
theorem kn_1 {A B : Nat → Prop} {dA : ∀ i, Decidable (A i)} {dB : ∀ i, Decidable (B i)} {p : Nat} : ∀ m, p < m → (∀ i, i < m → i ≠ p → (A i ↔ B i)) → ¬ A p → B p → kn B dB m = kn A dA m + 1
  | 0, hp, _, _, _ => absurd hp (Nat.not_lt_zero _)
  | m + 1, hp, h, ha, hb => by
    unfold kn
    by_cases q : p = m
    · subst q
      have e := kn_cg (A := A) (B := B) (dA := dA) (dB := dB) p (fun i hi => h i (by omega) (by omega))
      rw [e, if_neg ha, if_pos hb]
    · have e := kn_1 (dA := dA) (dB := dB) m (by omega) (fun i hi hn => h i (by omega) hn) ha hb
      have h1 := h m (by omega) (fun z => q z.symm)
      rw [e]
      by_cases q : A m
      · rw [if_pos q, if_pos (h1.mp q)]
      · rw [if_neg q, if_neg (fun z => q (h1.mpr z))]
theorem kn_le {A : Nat → Prop} {dA : ∀ i, Decidable (A i)} : ∀ m, kn A dA m ≤ m
  | 0 => Nat.le_refl _
  | m + 1 => by
    have := kn_le (A := A) (dA := dA) m
    unfold kn
    split <;> omega
theorem zCnt_kn {z : Nat → Int32} {c : Int32} : ∀ m, zCnt z c m = kn (fun i => zp z i 3 = 1 ∧ zp z i 4 / 10 = c) (fun _ => inferInstance) m
  | 0 => rfl
  | m + 1 => by
    unfold zCnt kn
    rw [zCnt_kn m]
theorem zMany_kn {z : Nat → Int32} {c : Int32} : ∀ m, zMany z c m = kn (fun i => zp z i 3 = c) (fun _ => inferInstance) m
  | 0 => rfl
  | m + 1 => by
    unfold zMany kn
    rw [zMany_kn m]
theorem zp_zs {z : Nat → Int32} {p k q j : Nat} {v : Int32} (hk : k < 6) (hj : j < 6) : zp (zset z p k v) q j = if q = p ∧ j = k then v else zp z q j := by
  unfold zset zp upd
  by_cases h : q = p ∧ j = k
  · rw [if_pos h, if_pos (by rw [h.1, h.2])]
  · rw [if_neg h, if_neg (by omega)]
theorem zs_n {z : Nat → Int32} {p k j : Nat} {v : Int32} (hp : p < 24) (hk : k < 6) (h : j < 16 ∨ 160 ≤ j) : zset z p k v j = z j := pk_un (by omega)
theorem d10 {a b : Nat} (hb : b < 10) (h : 10 * a + b < 2147483648) : nI (10 * a + b) / 10 = nI a := by
  rw [show (10 : Int32) = nI 10 from rfl, pk_div h (by decide) (by decide), show (10 * a + b) / 10 = a by omega]
theorem hSum_up {h : Nat → Nat} {c : Nat} : ∀ i, hSum (hUp h c) i = if c < i then hSum h i + 1 else hSum h i
  | 0 => rfl
  | i + 1 => by
    unfold hSum
    rw [hSum_up i]
    unfold hUp
    by_cases q : i = c
    · subst q
      rw [if_pos rfl, if_neg (by omega), if_pos (by omega)]
      omega
    · rw [if_neg q]
      by_cases q2 : c < i
      · rw [if_pos q2, if_pos (by omega)]
        omega
      · rw [if_neg q2, if_neg (by omega)]
theorem hSum_dn {h : Nat → Nat} {c : Nat} (h0 : 0 < h c) : ∀ i, hSum (hDn h c) i + (if c < i then 1 else 0) = hSum h i
  | 0 => rfl
  | i + 1 => by
    have e := hSum_dn h0 i
    unfold hSum hDn
    by_cases q : i = c
    · subst q
      rw [if_neg (by omega)] at e
      rw [if_pos rfl, if_pos (by omega), ← e]
      unfold hDn
      omega
    · rw [if_neg q, ← e]
      by_cases q2 : c < i
      · rw [if_pos q2, if_pos (by omega)]
        unfold hDn
        omega
      · rw [if_neg q2, if_neg (by omega)]
        rfl
abbrev Zz : Type := Nat → Int32
/-- a prize's numbers -/
def RQ (z : Zz) (y : Yy) (l p : Nat) : Prop :=
  (y 3 p = zp z p 0 ∧ y 4 p = zp z p 1 ∧ y 5 p = zp z p 2 ∧ y 6 p = zp z p 3 ∧ y 7 p = zp z p 5) ∧ pOk (zp z p 0) (zp z p 1) (zp z p 2) ∧ (zp z p 3 = 0 ∨ zp z p 3 = 1 ∨ zp z p 3 = 2) ∧ (zp z p 3 ≠ 1 → zp z p 4 = -6) ∧ (zp z p 3 = 0 ↔ l ≤ p)
def RP (z : Zz) (y : Yy) (m l : Nat) (h : Nat → Nat) (cl : Nat → Nat → Nat) : Prop :=
  (y 2 0 = nI m ∧ m ≤ 24 ∧ y 2 1 = nI l ∧ l ≤ m) ∧ hOk y h ∧ (∀ p, p < m → RQ z y l p) ∧ (∀ p, m ≤ p → p < 24 → y 6 p = 0 ∧ y 7 p = 0)
  ∧ (∀ c, c < 8 → ∀ k, k < h c → y 9 (4 * c + k) = nI (cl c k) ∧ cl c k < m ∧ zp z (cl c k) 3 = 1 ∧ zp z (cl c k) 4 = nI (10 * c + k))
  ∧ (∀ p, p < m → zp z p 3 = 1 → ∃ c k, c < 8 ∧ k < h c ∧ cl c k = p)
  ∧ (∀ c, c < 8 → zCnt z (nI c) m = h c) ∧ zMany z 1 m = hSum h 8
section R1
variable {z z' : Zz} {y y' : Yy} {m l : Nat} {h : Nat → Nat} {cl : Nat → Nat → Nat}
theorem zCnt_cg {c : Int32} (e : ∀ p, p < m → zp z' p 3 = zp z p 3 ∧ zp z' p 4 = zp z p 4) : zCnt z' c m = zCnt z c m := by
  rw [zCnt_kn, zCnt_kn]
  exact kn_cg m fun i hi => by rw [(e i hi).1, (e i hi).2]
theorem zMany_cg {c : Int32} (e : ∀ p, p < m → zp z' p 3 = zp z p 3) : zMany z' c m = zMany z c m := by
  rw [zMany_kn, zMany_kn]
  exact kn_cg m fun i hi => by rw [e i hi]
/-- other numbers may change -/
theorem RP.cg (H : RP z y m l h cl) (e : ∀ p j, p < m → j < 6 → zp z' p j = zp z p j) (g : ∀ i, 2 ≤ i → i ≤ 10 → y' i = y i) : RP z' y' m l h cl := by
  obtain ⟨a, b, c, d, f, g1, g2, g3⟩ := H
  refine ⟨?_, b.of (g 10 (by decide) (by decide)), fun p hp => ?_, fun p hp hp2 => ?_, fun x hx k hk => ?_, fun p hp h1 => ?_, fun x hx => ?_, ?_⟩
  · rw [g 2 (by decide) (by decide)]
    exact a
  · unfold RQ
    rw [g 3 (by decide) (by decide), g 4 (by decide) (by decide), g 5 (by decide) (by decide), g 6 (by decide) (by decide), g 7 (by decide) (by decide), e p 0 hp (by decide), e p 1 hp (by decide), e p 2 hp (by decide), e p 3 hp (by decide), e p 4 hp (by decide), e p 5 hp (by decide)]
    exact c p hp
  · rw [g 6 (by decide) (by decide), g 7 (by decide) (by decide)]
    exact d p hp hp2
  · obtain ⟨f1, f2, f3, f4⟩ := f x hx k hk
    rw [g 9 (by decide) (by decide), e _ 3 f2 (by decide), e _ 4 f2 (by decide)]
    exact ⟨f1, f2, f3, f4⟩
  · rw [e p 3 hp (by decide)] at h1
    exact g1 p hp h1
  · rw [zCnt_cg fun p hp => ⟨e p 3 hp (by decide), e p 4 hp (by decide)⟩]
    exact g2 x hx
  · rw [zMany_cg fun p hp => e p 3 hp (by decide)]
    exact g3
theorem RP.gr (H : RP z y m l h cl) {p : Nat} (hp : p < m) : RP (zGr z p) (yGr y p) m l h cl := by
  have km := H.1.2.1
  obtain ⟨a, b, c, d, f, g1, g2, g3⟩ := H
  have e : ∀ q j, j < 5 → zp (zGr z p) q j = zp z q j := fun q j hj => by
    unfold zGr
    rw [zp_zs (by decide) (by omega), if_neg (by omega)]
  refine ⟨a, b.of rfl, fun q hq => ?_, fun q hq hq2 => ?_, fun x hx k hk => ?_, fun q hq h1 => ?_, fun x hx => ?_, ?_⟩
  · obtain ⟨⟨c1, c2, c3, c4, c5⟩, c6⟩ := c q hq
    unfold RQ
    rw [e q 0 (by decide), e q 1 (by decide), e q 2 (by decide), e q 3 (by decide), e q 4 (by decide)]
    refine ⟨⟨c1, c2, c3, c4, ?_⟩, c6⟩
    unfold zGr
    rw [zp_zs (by decide) (by decide)]
    show upd (y 7) p (y 7 p + 1) q = _
    by_cases hqp : q = p
    · subst hqp
      rw [pk_us, if_pos ⟨rfl, rfl⟩, c5]
    · rw [pk_un hqp, if_neg (fun z => hqp z.1)]
      exact c5
  · refine ⟨(d q hq hq2).1, ?_⟩
    show upd (y 7) p (y 7 p + 1) q = _
    rw [pk_un (by omega)]
    exact (d q hq hq2).2
  · rw [e _ 3 (by decide), e _ 4 (by decide)]
    exact f x hx k hk
  · rw [e _ 3 (by decide)] at h1
    exact g1 q hq h1
  · rw [zCnt_cg fun q hq => ⟨e q 3 (by decide), e q 4 (by decide)⟩]
    exact g2 x hx
  · rw [zMany_cg fun q hq => e q 3 (by decide)]
    exact g3
theorem RP.cl_in (H : RP z y m l h cl) {c k c' k' : Nat} (hc : c < 8) (hk : k < h c) (hc' : c' < 8) (hk' : k' < h c') (e : cl c k = cl c' k') : c = c' ∧ k = k' := by
  have e1 := (H.2.2.2.2.1 c hc k hk).2.2.2
  have e2 := (H.2.2.2.2.1 c' hc' k' hk').2.2.2
  have b1 := (H.2.1 c hc).2
  have b2 := (H.2.1 c' hc').2
  rw [e, e2, nI_eq (by omega) (by omega)] at e1
  omega
end R1
