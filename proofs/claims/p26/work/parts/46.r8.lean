/-! bits counted -/
theorem bn_and (a b : Nat) : nI a &&& nI b = nI (a &&& b) := by
  apply Int32.toBitVec_inj.1
  show BitVec.ofNat 32 a &&& BitVec.ofNat 32 b = BitVec.ofNat 32 (a &&& b)
  apply BitVec.eq_of_getLsbD_eq
  intro i hi
  simp [hi]
theorem bn_or (a b : Nat) : nI a ||| nI b = nI (a ||| b) := by
  apply Int32.toBitVec_inj.1
  show BitVec.ofNat 32 a ||| BitVec.ofNat 32 b = BitVec.ofNat 32 (a ||| b)
  apply BitVec.eq_of_getLsbD_eq
  intro i hi
  simp [hi]
theorem nI_tb (x : Int32) : x = nI x.toBitVec.toNat := Int32.toBitVec_inj.mp (by show _ = BitVec.ofNat 32 _; simp)
theorem us_n {a k : Nat} {s : Int32} (h : a < 2 ^ 32) (hs : ((s.toUInt32 &&& Int32.toUInt32 31).toBitVec % 32).toNat = k) : us32 (nI a) s = nI (a / 2 ^ k) := by
  rw [nI_tb (us32 (nI a) s)]
  refine congrArg nI ?_
  unfold us32
  rw [pk_ushr (nI a) s k hs, pk_tn h]
theorem and256 (a b : Nat) : a &&& b = (a % 256 &&& b % 256) + 256 * (a / 256 &&& b / 256) := by
  have h1 := Nat.and_mod_two_pow (a := a) (b := b) (n := 8)
  have h2 := Nat.and_div_two_pow (a := a) (b := b) (n := 8)
  have h3 := Nat.div_add_mod (a &&& b) 256
  rw [show (2 : Nat) ^ 8 = 256 from rfl] at h1 h2
  omega
theorem and3 {A B C : Nat} (hA : A < 256) (hB : B < 256) (m : Nat) : (A + 256 * B + 65536 * C) &&& m = (A &&& m % 256) + 256 * (B &&& m / 256 % 256) + 65536 * (C &&& m / 256 / 256) := by
  have e1 := and256 (A + 256 * B + 65536 * C) m
  have e2 := and256 (B + 256 * C) (m / 256)
  rw [show (A + 256 * B + 65536 * C) % 256 = A by omega, show (A + 256 * B + 65536 * C) / 256 = B + 256 * C by omega] at e1
  rw [show (B + 256 * C) % 256 = B by omega, show (B + 256 * C) / 256 = C by omega] at e2
  omega
def t1 (a : Nat) : Nat := a - (a / 2 &&& 85)
def t2 (a : Nat) : Nat := (a &&& 51) + (a / 4 &&& 51)
def t3 (a : Nat) : Nat := a % 16 + a / 16
def h8 (a : Nat) : Nat := t3 (t2 (t1 a))
set_option maxRecDepth 100000 in
theorem k85 : ∀ a, a < 128 → ∀ b, b < 2 → (a + 128 * b) &&& 85 = a &&& 85 := by decide +kernel
set_option maxRecDepth 100000 in
theorem k85c : ∀ a, a < 128 → a &&& 21845 = a &&& 85 := by decide +kernel
set_option maxRecDepth 100000 in
theorem k51 : ∀ a, a < 64 → ∀ b, b < 4 → (a + 64 * b) &&& 51 = a &&& 51 := by decide +kernel
set_option maxRecDepth 100000 in
theorem k51c : ∀ a, a < 256 → a &&& 13107 = a &&& 51 := by decide +kernel
set_option maxRecDepth 100000 in
theorem k15c : ∀ a, a < 256 → a &&& 3855 = a &&& 15 := by decide +kernel
set_option maxRecDepth 100000 in
theorem kt1 : ∀ a, a < 256 → (a / 2 &&& 85) ≤ a ∧ t1 a < 171 := by decide +kernel
set_option maxRecDepth 100000 in
theorem kt2 : ∀ a, a < 256 → t2 (t1 a) % 16 ≤ 4 ∧ t2 (t1 a) / 16 ≤ 4 := by decide +kernel
set_option maxRecDepth 100000 in
theorem kh8n : ∀ n, n < 256 → h8 n = n % 2 + n / 2 % 2 + n / 4 % 2 + n / 8 % 2 + n / 16 % 2 + n / 32 % 2 + n / 64 % 2 + n / 128 % 2 := by decide +kernel
theorem kh8 (a : Nat) (ha : a < 2) (b : Nat) (hb : b < 2) (c : Nat) (hc : c < 2) (d : Nat) (hd : d < 2) (e : Nat) (he : e < 2) (f : Nat) (hf : f < 2) (g : Nat) (hg : g < 2) (h : Nat) (hh : h < 2) : h8 (a + 2 * b + 4 * c + 8 * d + 16 * e + 32 * f + 64 * g + 128 * h) = a + b + c + d + e + f + g + h := by
  rw [kh8n _ (by omega)]
  omega
theorem st1 {A B C : Nat} (hA : A < 256) (hB : B < 256) (hC : C < 256) : (A + 256 * B + 65536 * C) - ((A + 256 * B + 65536 * C) / 2 &&& 1431655765) = t1 A + 256 * t1 B + 65536 * t1 C := by
  rw [show (A + 256 * B + 65536 * C) / 2 = (A / 2 + 128 * (B % 2)) + 256 * (B / 2 + 128 * (C % 2)) + 65536 * (C / 2) by omega, and3 (by omega) (by omega)]
  rw [show 1431655765 % 256 = 85 from rfl, show 1431655765 / 256 / 256 = 21845 from rfl]
  rw [k85 _ (by omega) _ (by omega), k85 _ (by omega) _ (by omega), k85c _ (by omega)]
  have a := (kt1 A hA).1
  have b := (kt1 B hB).1
  have c := (kt1 C hC).1
  unfold t1
  omega
theorem st2 {A B C : Nat} (hA : A < 256) (hB : B < 256) (hC : C < 256) : ((A + 256 * B + 65536 * C) &&& 858993459) + ((A + 256 * B + 65536 * C) / 4 &&& 858993459) = t2 A + 256 * t2 B + 65536 * t2 C := by
  rw [show (A + 256 * B + 65536 * C) / 4 = (A / 4 + 64 * (B % 4)) + 256 * (B / 4 + 64 * (C % 4)) + 65536 * (C / 4) by omega, and3 hA hB, and3 (by omega) (by omega)]
  rw [show 858993459 % 256 = 51 from rfl, show 858993459 / 256 / 256 = 13107 from rfl]
  rw [k51 _ (by omega) _ (by omega), k51 _ (by omega) _ (by omega), k51c _ hC, k51c (C / 4) (by omega)]
  unfold t2
  omega
theorem st3 {A B C : Nat} (hA : A % 16 ≤ 4 ∧ A / 16 ≤ 4) (hB : B % 16 ≤ 4 ∧ B / 16 ≤ 4) (hC : C % 16 ≤ 4 ∧ C / 16 ≤ 4) : ((A + 256 * B + 65536 * C) + (A + 256 * B + 65536 * C) / 16) &&& 252645135 = t3 A + 256 * t3 B + 65536 * t3 C := by
  rw [show (A + 256 * B + 65536 * C) + (A + 256 * B + 65536 * C) / 16 = (A + A / 16 + 16 * (B % 16)) + 256 * (B + B / 16 + 16 * (C % 16)) + 65536 * (C + C / 16) by omega, and3 (by omega) (by omega)]
  rw [show 252645135 % 256 = 15 from rfl, show 252645135 / 256 / 256 = 3855 from rfl, k15c _ (by omega)]
  have f : ∀ x : Nat, x &&& 15 = x % 16 := fun x => Nat.and_two_pow_sub_one_eq_mod x 4
  have g1 : (A + A / 16 + 16 * (B % 16)) % 16 = A % 16 + A / 16 := by
    clear hB hC f
    omega
  have g2 : (B + B / 16 + 16 * (C % 16)) % 16 = B % 16 + B / 16 := by
    clear hA hC f g1
    omega
  have g3 : (C + C / 16) % 16 = C % 16 + C / 16 := by
    clear hA hB f g1 g2
    omega
  rw [f, f, f, g1, g2, g3]
  rfl
theorem bc_n {A B C : Nat} (hA : A < 256) (hB : B < 256) (hC : C < 256) : bcF (nI (A + 256 * B + 65536 * C)) = nI (h8 A + h8 B + h8 C) := by
  have a1 := kt1 A hA
  have b1 := kt1 B hB
  have c1 := kt1 C hC
  have a2 := kt2 A hA
  have b2 := kt2 B hB
  have c2 := kt2 C hC
  have lt2 : ∀ x, x < 256 → t2 (t1 x) < 69 := fun x hx => by
    have := kt2 x hx
    omega
  have lt3 : ∀ x, x < 256 → h8 x ≤ 8 := fun x hx => by
    have := kt2 x hx
    unfold h8 t3
    omega
  have e1 : bc1 (nI (A + 256 * B + 65536 * C)) = nI (t1 A + 256 * t1 B + 65536 * t1 C) := by
    unfold bc1
    rw [us_n (k := 1) (by omega) (by decide), show (1431655765 : Int32) = nI 1431655765 from rfl, bn_and, pk_sub (Nat.le_trans Nat.and_le_left (Nat.div_le_self _ _))]
    exact congrArg nI (st1 hA hB hC)
  have e2 : bc2 (nI (t1 A + 256 * t1 B + 65536 * t1 C)) = nI (t2 (t1 A) + 256 * t2 (t1 B) + 65536 * t2 (t1 C)) := by
    unfold bc2
    rw [us_n (k := 2) (by omega) (by decide), show (858993459 : Int32) = nI 858993459 from rfl, bn_and, bn_and, nI_add]
    exact congrArg nI (st2 (by omega) (by omega) (by omega))
  have la := lt2 A hA
  have lb := lt2 B hB
  have lc := lt2 C hC
  have e3 : bc3 (nI (t2 (t1 A) + 256 * t2 (t1 B) + 65536 * t2 (t1 C))) = nI (h8 A + 256 * h8 B + 65536 * h8 C) := by
    unfold bc3
    rw [us_n (k := 4) (by omega) (by decide), show (252645135 : Int32) = nI 252645135 from rfl, nI_add, bn_and]
    exact congrArg nI (st3 a2 b2 c2)
  have ma := lt3 A hA
  have mb := lt3 B hB
  have mc := lt3 C hC
  unfold bcF
  rw [e1, e2, e3]
  generalize h8 A = a at ma ⊢
  generalize h8 B = b at mb ⊢
  generalize h8 C = c at mc ⊢
  unfold bc5 bc4
  rw [us_n (k := 8) (by omega) (by decide), nI_add, us_n (k := 16) (by omega) (by decide), nI_add, show (63 : Int32) = nI 63 from rfl, bn_and]
  have f : ∀ x : Nat, x &&& 63 = x % 64 := fun x => Nat.and_two_pow_sub_one_eq_mod x 6
  rw [f]
  refine congrArg nI ?_
  rw [show (2 : Nat) ^ 8 = 256 from rfl, show (2 : Nat) ^ 16 = 65536 from rfl, show (a + 256 * b + 65536 * c) / 256 = b + 256 * c by omega, show (a + 256 * b + 65536 * c + (b + 256 * c)) / 65536 = c by omega]
  omega
/-- a number out of digits, their sum -/
def nmB (g : Nat → Nat) : Nat → Nat
  | 0 => 0
  | i + 1 => nmB g i + g i * 2 ^ i
def ctB (g : Nat → Nat) : Nat → Nat
  | 0 => 0
  | i + 1 => ctB g i + g i
theorem bc_g {g : Nat → Nat} (hg : ∀ i, g i < 2) : bcF (nI (nmB g 24)) = nI (ctB g 24) := by
  have e : nmB g 24 = (g 0 + 2 * g 1 + 4 * g 2 + 8 * g 3 + 16 * g 4 + 32 * g 5 + 64 * g 6 + 128 * g 7) + 256 * (g 8 + 2 * g 9 + 4 * g 10 + 8 * g 11 + 16 * g 12 + 32 * g 13 + 64 * g 14 + 128 * g 15) + 65536 * (g 16 + 2 * g 17 + 4 * g 18 + 8 * g 19 + 16 * g 20 + 32 * g 21 + 64 * g 22 + 128 * g 23) := by
    simp only [nmB, Nat.reducePow]
    omega
  have e2 : ctB g 24 = (g 0 + g 1 + g 2 + g 3 + g 4 + g 5 + g 6 + g 7) + (g 8 + g 9 + g 10 + g 11 + g 12 + g 13 + g 14 + g 15) + (g 16 + g 17 + g 18 + g 19 + g 20 + g 21 + g 22 + g 23) := by
    simp only [ctB]
    omega
  have g0 := hg 0
  have g1 := hg 1
  have g2 := hg 2
  have g3 := hg 3
  have g4 := hg 4
  have g5 := hg 5
  have g6 := hg 6
  have g7 := hg 7
  have g8 := hg 8
  have g9 := hg 9
  have g10 := hg 10
  have g11 := hg 11
  have g12 := hg 12
  have g13 := hg 13
  have g14 := hg 14
  have g15 := hg 15
  have g16 := hg 16
  have g17 := hg 17
  have g18 := hg 18
  have g19 := hg 19
  have g20 := hg 20
  have g21 := hg 21
  have g22 := hg 22
  have g23 := hg 23
  rw [e, e2, bc_n (by omega) (by omega) (by omega), kh8 _ g0 _ g1 _ g2 _ g3 _ g4 _ g5 _ g6 _ g7, kh8 _ g8 _ g9 _ g10 _ g11 _ g12 _ g13 _ g14 _ g15, kh8 _ g16 _ g17 _ g18 _ g19 _ g20 _ g21 _ g22 _ g23]
def gB2 (y : Yy) (m : Nat) : Nat → Nat := fun i => if i < m ∧ y 6 i = 2 then 1 else 0
theorem gB2_lt {y : Yy} {m : Nat} (i : Nat) : gB2 y m i < 2 := by
  unfold gB2
  split <;> omega
theorem nmB_lt {g : Nat → Nat} (hg : ∀ i, g i < 2) : ∀ n, nmB g n < 2 ^ n
  | 0 => (show 0 < 1 by decide)
  | n + 1 => by
    have e := nmB_lt hg n
    have := hg n
    have h2 : g n * 2 ^ n ≤ 1 * 2 ^ n := Nat.mul_le_mul_right _ (by omega)
    have h3 : 2 ^ (n + 1) = 2 ^ n + 2 ^ n := by rw [Nat.pow_succ]; omega
    unfold nmB
    omega
set_option maxRecDepth 100000 in
theorem shl_n : ∀ i, i < 24 → (1 : Int32) <<< (nI i &&& 31) = nI (2 ^ i) := by decide +kernel
theorem ySet_n {y : Yy} {m : Nat} (h24 : m ≤ 24) : ∀ n, n ≤ m → ySet y 2 n = nI (nmB (gB2 y m) n)
  | 0, _ => nI_0.symm
  | n + 1, hn => by
    have e := ySet_n (y := y) h24 n (by omega)
    unfold ySet nmB
    rw [e]
    by_cases q : y 6 n = 2
    · have eg : gB2 y m n = 1 := if_pos ⟨by omega, q⟩
      have lt := nmB_lt (gB2_lt (y := y) (m := m)) n
      rw [if_pos q, eg, shl_n n (by omega), bn_or, Nat.or_comm, Nat.one_mul]
      have := Nat.two_pow_add_eq_or_of_lt lt 1
      rw [Nat.mul_one] at this
      rw [← this, Nat.add_comm]
    · have eg : gB2 y m n = 0 := if_neg fun w => q w.2
      rw [if_neg q, eg, Nat.zero_mul, Nat.add_zero]
theorem yWon_n {y : Yy} {m : Nat} : ∀ n, n ≤ m → yWon y n = ctB (gB2 y m) n
  | 0, _ => rfl
  | n + 1, hn => by
    have e := yWon_n (y := y) n (Nat.le_of_succ_le hn)
    unfold yWon ctB
    rw [e]
    by_cases q : y 6 n = 2
    · have eg : gB2 y m n = 1 := if_pos ⟨by omega, q⟩
      rw [if_pos q, eg]
    · have eg : gB2 y m n = 0 := if_neg fun w => q w.2
      rw [if_neg q, eg]
theorem gB2_up {y : Yy} {m : Nat} : ∀ k, nmB (gB2 y m) (m + k) = nmB (gB2 y m) m ∧ ctB (gB2 y m) (m + k) = ctB (gB2 y m) m
  | 0 => ⟨rfl, rfl⟩
  | k + 1 => by
    obtain ⟨e1, e2⟩ := gB2_up (y := y) (m := m) k
    have eg : gB2 y m (m + k) = 0 := if_neg fun w => by omega
    refine ⟨?_, ?_⟩
    · show nmB (gB2 y m) (m + k) + gB2 y m (m + k) * 2 ^ (m + k) = _
      rw [e1, eg, Nat.zero_mul, Nat.add_zero]
    · show ctB (gB2 y m) (m + k) + gB2 y m (m + k) = _
      rw [e2, eg, Nat.add_zero]
/-- how many were won -/
theorem bc_won {y : Yy} {m : Nat} (h24 : m ≤ 24) : bcF (ySet y 2 m) = nI (yWon y m) := by
  obtain ⟨e1, e2⟩ := gB2_up (y := y) (m := m) (24 - m)
  rw [show m + (24 - m) = 24 by omega] at e1 e2
  rw [ySet_n h24 m (Nat.le_refl _), yWon_n m (Nat.le_refl _), ← e1, ← e2]
  exact bc_g gB2_lt
section R8
variable {z z' : Zz} {y y' : Yy} {b m l p c t s : Nat} {h : Nat → Nat} {cl : Nat → Nat → Nat}
theorem RC.count (H : RC b z y m l h cl) (ty st v : Int32) : zCount z m ty st v = yCount y m h ty st v := by
  obtain ⟨hP, ⟨⟨n0, n1, n2, n3, n4, n5, n6⟩, n7⟩, ⟨v1, v2⟩, -⟩ := H
  have m24 := hP.1.2.1
  unfold zCount yCount
  by_cases a : 12 ≤ v ∧ v < 18
  · have a2 : 12 ≤ v ∧ v ≤ 17 := ⟨a.1, by
      have := a.2
      rw [Int32.lt_iff_toInt_lt, show (18 : Int32).toInt = 18 from rfl] at this
      rw [Int32.le_iff_toInt_le, show (17 : Int32).toInt = 17 from rfl]
      omega⟩
    obtain ⟨j, hj, rfl⟩ := nI_of3 (n := 17) (by decide) (Int32.le_trans (by decide) a2.1) a2.2
    have hj2 : 12 ≤ j := (nI_leI (a := 12) (by decide) (by omega)).mp a.1
    have ne : ∀ k, k < 12 → ¬ nI j = nI k := fun k hk w => by
      have := (nI_eq (by omega) (by omega)).mp w
      omega
    rw [if_pos a, if_neg (fun w => absurd ((nI_leI (b := 7) (by omega) (by decide)).mp w.2) (by omega)), if_neg (show ¬ nI j = 8 from ne 8 (by decide)), if_neg (show ¬ nI j = 9 from ne 9 (by decide)), if_neg (show ¬ nI j = 10 from ne 10 (by decide)), if_neg (show ¬ nI j = 11 from ne 11 (by decide)), if_pos a2, nI_clamp (by omega)]
    exact (n7 _ (by omega)).symm
  · rw [if_neg a]
    by_cases q : 0 ≤ v ∧ v ≤ 7
    · obtain ⟨j, hj, rfl⟩ := nI_of3 (n := 7) (by decide) q.1 q.2
      rw [if_pos q, nI_clamp (by omega)]
      have k8 : j = 0 ∨ j = 1 ∨ j = 2 ∨ j = 3 ∨ j = 4 ∨ j = 5 ∨ j = 6 ∨ j = 7 := by omega
      have el : ∀ (i k : Nat) (A B : Int32), i < 30 → k < 30 → i = k → (if nI i = nI k then A else B) = A := fun i k A B _ _ e => if_pos (by rw [e])
      have en : ∀ (i k : Nat) (A B : Int32), i < 30 → k < 30 → i ≠ k → (if nI i = nI k then A else B) = B := fun i k A B hi hk e => if_neg fun w => e ((nI_eq (by omega) (by omega)).mp w)
      rcases k8 with rfl | rfl | rfl | rfl | rfl | rfl | rfl | rfl
      · exact n0.symm
      · exact n1.symm
      · exact n2.symm
      · exact n3.symm
      · exact n4.symm
      · exact v1.trans (bc_won m24).symm
      · exact n5.symm
      · exact v2
    · have ne : ∀ k, k ≤ 7 → ¬ v = nI k := fun k hk w => q (by
        rw [w]
        exact ⟨nI_pos' (by omega), nI_le (b := 7) hk (by decide)⟩)
      rw [if_neg q, if_neg (show ¬ v = 0 from ne 0 (by decide)), if_neg (show ¬ v = 1 from ne 1 (by decide)), if_neg (show ¬ v = 2 from ne 2 (by decide)), if_neg (show ¬ v = 3 from ne 3 (by decide)), if_neg (show ¬ v = 4 from ne 4 (by decide)), if_neg (show ¬ v = 5 from ne 5 (by decide)), if_neg (show ¬ v = 6 from ne 6 (by decide)), if_neg (show ¬ v = 7 from ne 7 (by decide)), hP.set m (Nat.le_refl _), hP.set m (Nat.le_refl _), hP.em 8 (Nat.le_refl _), n6, if_neg (c := 12 ≤ v ∧ v ≤ 17)]
      intro w
      refine a ⟨w.1, Int32.lt_of_le_of_lt w.2 (by decide)⟩
end R8
