/-! bits of sets, ranks -/
def pcF : Nat → Nat → Nat
  | 0, _ => 0
  | k + 1, n => n % 2 + pcF k (n / 2)
theorem pcF_0 : ∀ k, pcF k 0 = 0
  | 0 => rfl
  | k + 1 => by
    show 0 % 2 + pcF k (0 / 2) = 0
    rw [show 0 / 2 = 0 from rfl, pcF_0 k]
theorem pcF_st : ∀ j k x, x < 2 ^ j → pcF (j + k) x = pcF j x
  | 0, k, x, h => by
    have h0 : x = 0 := by
      have : (2 : Nat) ^ 0 = 1 := rfl
      omega
    subst h0
    rw [pcF_0, pcF_0]
  | j + 1, k, x, h => by
    have e := pcF_st j k (x / 2) (by rw [Nat.pow_succ] at h; omega)
    rw [show j + 1 + k = (j + k) + 1 by omega]
    show x % 2 + pcF (j + k) (x / 2) = x % 2 + pcF j (x / 2)
    rw [e]
/-- how many bits a number has -/
def pcn (n : Nat) : Nat := pcF n n
theorem pcn_0 : pcn 0 = 0 := rfl
theorem pcn_s {n : Nat} : pcn n = n % 2 + pcn (n / 2) := by
  cases n with
  | zero => rfl
  | succ n =>
    show (n + 1) % 2 + pcF n ((n + 1) / 2) = (n + 1) % 2 + pcF ((n + 1) / 2) ((n + 1) / 2)
    have e := pcF_st ((n + 1) / 2) (n - (n + 1) / 2) ((n + 1) / 2) Nat.lt_two_pow_self
    rw [show (n + 1) / 2 + (n - (n + 1) / 2) = n by omega] at e
    rw [e]
theorem pcn_add : ∀ n a b, a < 2 ^ n → pcn (a + b * 2 ^ n) = pcn a + pcn b
  | 0, a, b, h => by
    have h0 : a = 0 := by
      have : (2 : Nat) ^ 0 = 1 := rfl
      omega
    subst h0
    rw [pcn_0, Nat.pow_zero, Nat.mul_one]
    simp only [Nat.zero_add]
  | n + 1, a, b, h => by
    have e := pcn_add n (a / 2) b (by rw [Nat.pow_succ] at h; omega)
    have k : b * 2 ^ (n + 1) = 2 * (b * 2 ^ n) := by rw [Nat.pow_succ, ← Nat.mul_assoc, Nat.mul_comm]
    rw [pcn_s (n := a + b * 2 ^ (n + 1)), pcn_s (n := a), k]
    generalize b * 2 ^ n = t at e ⊢
    rw [show (a + 2 * t) % 2 = a % 2 by omega, show (a + 2 * t) / 2 = a / 2 + t by omega, e]
    omega
theorem pcn_g {g : Nat → Nat} (hg : ∀ i, g i < 2) : ∀ n, pcn (nmB g n) = ctB g n
  | 0 => by
    exact pcn_0
  | n + 1 => by
    have e := pcn_g hg n
    have h1 : pcn (g n) = g n := by
      have := hg n
      rcases (show g n = 0 ∨ g n = 1 by omega) with q | q
      · rw [q, pcn_0]
      · rw [q, pcn_s, show 1 / 2 = 0 from rfl, pcn_0]
    unfold nmB ctB
    rw [pcn_add n _ _ (nmB_lt hg n), e, h1]
/-- the lowest bit taken away -/
theorem low_n : ∀ n, 0 < n → pcn (n &&& (n - 1)) + 1 = pcn n ∧ (n &&& (n - 1)) < n := by
  intro n
  induction n using Nat.strongRecOn with
  | ind n ih =>
    intro h0
    have d1 := Nat.and_div_two_pow (a := n) (b := n - 1) (n := 1)
    have m1 := Nat.and_mod_two_pow (a := n) (b := n - 1) (n := 1)
    rw [show (2 : Nat) ^ 1 = 2 from rfl] at d1 m1
    have hd := Nat.div_add_mod (n &&& (n - 1)) 2
    rcases (show n % 2 = 0 ∨ n % 2 = 1 by omega) with q | q
    · have e1 : (n - 1) / 2 = n / 2 - 1 := by omega
      have e2 : (n - 1) % 2 = 1 := by omega
      rw [e1] at d1
      rw [q, e2, show (0 : Nat) &&& 1 = 0 from rfl] at m1
      obtain ⟨a, b⟩ := ih (n / 2) (by omega) (by omega)
      rw [pcn_s (n := n), pcn_s (n := n &&& (n - 1)), m1, d1, q]
      omega
    · have e1 : (n - 1) / 2 = n / 2 := by omega
      have e2 : (n - 1) % 2 = 0 := by omega
      rw [e1, Nat.and_self] at d1
      rw [q, e2, show (1 : Nat) &&& 0 = 0 from rfl] at m1
      rw [pcn_s (n := n), pcn_s (n := n &&& (n - 1)), m1, d1, q]
      omega
theorem nmB_tb {g : Nat → Nat} (hg : ∀ i, g i < 2) : ∀ n i, (nmB g n).testBit i = decide (i < n ∧ g i = 1)
  | 0, i => by
    show Nat.testBit 0 i = _
    rw [Nat.zero_testBit]
    exact (decide_eq_false (fun w => Nat.not_lt_zero _ w.1)).symm
  | n + 1, i => by
    have e := nmB_tb hg n i
    have lt := nmB_lt hg n
    unfold nmB
    rw [Nat.add_comm, Nat.mul_comm, Nat.testBit_two_pow_mul_add _ lt]
    by_cases q : i < n
    · rw [if_pos q, e]
      exact decide_eq_decide.mpr ⟨fun w => ⟨by omega, w.2⟩, fun w => ⟨q, w.2⟩⟩
    · rw [if_neg q]
      have := hg n
      rcases (show g n = 0 ∨ g n = 1 by omega) with r | r
      · rw [r, Nat.zero_testBit]
        refine (decide_eq_false (fun w => ?_)).symm
        obtain ⟨w1, w2⟩ := w
        obtain rfl : i = n := by omega
        omega
      · rw [r]
        by_cases q2 : i = n
        · subst q2
          rw [Nat.sub_self]
          exact (decide_eq_true ⟨by omega, r⟩).symm
        · rw [show Nat.testBit 1 (i - n) = false from Bool.eq_false_iff.mpr fun w => by
            have := Nat.testBit_one_eq_true_iff_self_eq_zero.mp w
            omega]
          refine (decide_eq_false (fun w => ?_)).symm
          omega
def gV (y : Yy) (v : Int32) (m : Nat) : Nat → Nat := fun i => if i < m ∧ y 6 i = v then 1 else 0
theorem gV_lt {y : Yy} {v : Int32} {m : Nat} (i : Nat) : gV y v m i < 2 := by
  unfold gV
  split <;> omega
theorem ySet_v {y : Yy} {v : Int32} {m : Nat} (h24 : m ≤ 24) : ∀ n, n ≤ m → ySet y v n = nI (nmB (gV y v m) n)
  | 0, _ => nI_0.symm
  | n + 1, hn => by
    have e := ySet_v (y := y) (v := v) h24 n (by omega)
    unfold ySet nmB
    rw [e]
    by_cases q : y 6 n = v
    · have eg : gV y v m n = 1 := if_pos ⟨by omega, q⟩
      have lt := nmB_lt (gV_lt (y := y) (v := v) (m := m)) n
      rw [if_pos q, eg, shl_n n (by omega), bn_or, Nat.or_comm, Nat.one_mul]
      have := Nat.two_pow_add_eq_or_of_lt lt 1
      rw [Nat.mul_one] at this
      rw [← this, Nat.add_comm]
    · have eg : gV y v m n = 0 := if_neg fun w => q w.2
      rw [if_neg q, eg, Nat.zero_mul, Nat.add_zero]
theorem gV_kn {y : Yy} {v : Int32} {m : Nat} : ∀ n, n ≤ m → ctB (gV y v m) n = kn (fun i => y 6 i = v) (fun _ => inferInstance) n
  | 0, _ => rfl
  | n + 1, hn => by
    have e := gV_kn (y := y) (v := v) (m := m) n (by omega)
    unfold ctB kn
    rw [e]
    by_cases q : y 6 n = v
    · rw [if_pos q, show gV y v m n = 1 from if_pos ⟨by omega, q⟩]
    · rw [if_neg q, show gV y v m n = 0 from if_neg fun w => q w.2]
/-- the mask of the pit as a number, how many bits it has -/
theorem RP.pit {z : Zz} {y : Yy} {m l : Nat} {h : Nat → Nat} {cl : Nat → Nat → Nat} (H : RP z y m l h cl) : ∃ N, N < 2 ^ 24 ∧ ySet y 1 m = nI N ∧ pcn N = hSum h 8 ∧ (∀ i, N.testBit i = decide (i < m ∧ y 6 i = 1)) := by
  have m24 := H.1.2.1
  have lt := nmB_lt (gV_lt (y := y) (v := 1) (m := m)) m
  refine ⟨nmB (gV y 1 m) m, Nat.lt_of_lt_of_le lt (Nat.pow_le_pow_right (by decide) m24), ySet_v m24 m (Nat.le_refl _), ?_, fun i => ?_⟩
  · rw [pcn_g gV_lt, gV_kn m (Nat.le_refl _), ← H.2.2.2.2.2.2.2, zMany_kn]
    exact kn_cg m fun i hi => by rw [(H.2.2.1 i hi).1.2.2.2.1]
  · rw [nmB_tb gV_lt]
    refine decide_eq_decide.mpr ⟨fun w => ⟨w.1, ?_⟩, fun w => ⟨w.1, if_pos w⟩⟩
    have e := w.2
    unfold gV at e
    split at e
    · rename_i q
      exact q.2
    · exact absurd e (by decide)
-- ranks
def rkA (y : Yy) (m r : Nat) : Nat → Prop := fun i => y 6 i = 1 ∧ yRk y i m < r
def rkD (y : Yy) (m r : Nat) : ∀ i, Decidable (rkA y m r i) := fun i => inferInstanceAs (Decidable (_ ∧ _))
theorem kn_le2 {A B : Nat → Prop} {dA : ∀ i, Decidable (A i)} {dB : ∀ i, Decidable (B i)} : ∀ m, (∀ i, i < m → A i → B i) → kn A dA m ≤ kn B dB m
  | 0, _ => Nat.le_refl _
  | m + 1, h => by
    have e := kn_le2 (dA := dA) (dB := dB) m (fun i hi => h i (by omega))
    have e2 := h m (by omega)
    unfold kn
    by_cases q : A m
    · rw [if_pos q, if_pos (e2 q)]
      omega
    · rw [if_neg q]
      omega
theorem yRk_lt {y : Yy} {p m : Nat} (hp : p < m) (h1 : y 6 p = 1) : yRk y p m < kn (fun i => y 6 i = 1) (fun _ => inferInstance) m := by
  rw [yRk_kn]
  refine kn_lt (p := p) m hp (fun i _ hi => hi.1) (fun w => ?_) h1
  have h1 := yBf_i.mp w.2
  omega
theorem rk_step {y : Yy} {m r : Nat} : kn (rkA y m (r + 1)) (rkD y m (r + 1)) m ≤ kn (rkA y m r) (rkD y m r) m + 1 ∧ ((∀ p, p < m → ¬ (y 6 p = 1 ∧ yRk y p m = r)) → kn (rkA y m (r + 1)) (rkD y m (r + 1)) m = kn (rkA y m r) (rkD y m r) m) := by
  have same : (∀ p, p < m → ¬ (y 6 p = 1 ∧ yRk y p m = r)) → kn (rkA y m (r + 1)) (rkD y m (r + 1)) m = kn (rkA y m r) (rkD y m r) m := fun hn => kn_cg m fun i hi => ⟨fun w => ⟨w.1, by
    have := hn i hi
    have w2 := w.2
    rcases Nat.lt_or_ge (yRk y i m) r with q | q
    · exact q
    · exact absurd ⟨w.1, by omega⟩ this⟩, fun w => ⟨w.1, by have := w.2; omega⟩⟩
  refine ⟨?_, same⟩
  by_cases q : ∃ p, p < m ∧ (y 6 p = 1 ∧ yRk y p m = r)
  · obtain ⟨p, hp, p1, p2⟩ := q
    refine Nat.le_of_eq (kn_1 (p := p) m hp (fun i hi hn => ?_) (fun w => by have := w.2; omega) ⟨p1, by omega⟩)
    refine ⟨fun w => ⟨w.1, by have := w.2; omega⟩, fun w => ⟨w.1, ?_⟩⟩
    have w2 := w.2
    rcases Nat.lt_or_ge (yRk y i m) r with u | u
    · exact u
    · exact absurd (by omega) (yRk_ne hi hp w.1 p1 hn)
  · rw [same fun p hp w => q ⟨p, hp, w⟩]
    omega
theorem rk_le {y : Yy} {m : Nat} : ∀ r, kn (rkA y m r) (rkD y m r) m ≤ r
  | 0 => by
    have : kn (rkA y m 0) (rkD y m 0) m ≤ kn (fun _ => False) (fun _ => inferInstance) m := kn_le2 m fun i _ w => Nat.not_lt_zero _ w.2
    refine Nat.le_trans this ?_
    clear this
    induction m with
    | zero => exact Nat.le_refl _
    | succ m ih =>
      unfold kn
      rw [if_neg (fun w => w)]
      exact ih
  | r + 1 => Nat.le_trans rk_step.1 (Nat.succ_le_succ (rk_le r))
theorem rk_up {y : Yy} {m r : Nat} : ∀ k, kn (rkA y m (r + k)) (rkD y m (r + k)) m ≤ kn (rkA y m r) (rkD y m r) m + k
  | 0 => Nat.le_refl _
  | k + 1 => Nat.le_trans (rk_step (r := r + k)).1 (by have := rk_up (y := y) (m := m) (r := r) k; omega)
/-- every rank below the number of prizes in the pit has its prize -/
theorem rk_ex {y : Yy} {m r : Nat} (hr : r < kn (fun i => y 6 i = 1) (fun _ => inferInstance) m) : ∃ p, p < m ∧ y 6 p = 1 ∧ yRk y p m = r := by
  by_cases q : ∃ p, p < m ∧ (y 6 p = 1 ∧ yRk y p m = r)
  · exact q
  · exfalso
    have e := (rk_step (y := y) (m := m) (r := r)).2 (fun p hp w => q ⟨p, hp, w⟩)
    have a := rk_le (y := y) (m := m) r
    have b := rk_up (y := y) (m := m) (r := r + 1) (kn (fun i => y 6 i = 1) (fun _ => inferInstance) m - (r + 1))
    have c : kn (fun i => y 6 i = 1) (fun _ => inferInstance) m ≤ kn (rkA y m (r + 1 + (kn (fun i => y 6 i = 1) (fun _ => inferInstance) m - (r + 1)))) (rkD y m _) m := kn_le2 m fun i hi w => ⟨w, by have := yRk_lt hi w; omega⟩
    omega
theorem yBv_r {y : Yy} {m p : Nat} (m24 : m ≤ 24) (hp : p < m) (h1 : y 6 p = 1) : yBv y m (nI (yRk y p m)) m 0 = nI p := by
  refine yBv_s (q := p) (Nat.zero_le _) (by omega) h1 rfl fun x hx hn w => ?_
  have k1 := yRk_le y x m
  have k2 := yRk_le y p m
  exact yRk_ne (by omega) hp w.1 h1 hn ((nI_eq (by omega) (by omega)).mp w.2)
theorem yBf_n {y : Yy} {p q m : Nat} (hp : p < m) (hq : q < m) (p1 : y 6 p = 1) (q1 : y 6 q = 1) (h : yRk y p m < yRk y q m) : yBf y p q := by
  have key : ∀ a b, a < m → y 6 a = 1 → yBf y a b → yRk y a m < yRk y b m := fun a b ha a1 hab => by
    rw [yRk_kn, yRk_kn]
    refine kn_lt (p := a) m ha (fun i _ hi => ⟨hi.1, ?_⟩) (fun w => ?_) ⟨a1, hab⟩
    · have h1 := yBf_i.mp hi.2
      have h2 := yBf_i.mp hab
      refine yBf_i.mpr ?_
      omega
    · have h1 := yBf_i.mp w.2
      omega
  by_cases e : p = q
  · subst e
    exact absurd h (Nat.lt_irrefl _)
  · have tot : yBf y p q ∨ yBf y q p := by
      rw [yBf_i, yBf_i]
      omega
    rcases tot with w | w
    · exact w
    · have := key q p hq q1 w
      omega
/-- the mask of the prizes with a rank below r -/
def gR2 (y : Yy) (m r : Nat) : Nat → Nat := fun i => if i < m ∧ (y 6 i = 1 ∧ yRk y i m < r) then 1 else 0
theorem gR2_lt {y : Yy} {m r : Nat} (i : Nat) : gR2 y m r i < 2 := by
  unfold gR2
  split <;> omega
def mR (y : Yy) (m r : Nat) : Nat := nmB (gR2 y m r) m
theorem mR_tb {y : Yy} {m r i : Nat} : (mR y m r).testBit i = decide (i < m ∧ (y 6 i = 1 ∧ yRk y i m < r)) := by
  unfold mR
  rw [nmB_tb gR2_lt]
  refine decide_eq_decide.mpr ⟨fun w => ?_, fun w => ⟨w.1, if_pos w⟩⟩
  have e := w.2
  unfold gR2 at e
  split at e
  · rename_i q
    exact q
  · exact absurd e (by decide)
theorem mR_lt {y : Yy} {m r : Nat} (m24 : m ≤ 24) : mR y m r < 2 ^ 24 := Nat.lt_of_lt_of_le (nmB_lt gR2_lt m) (Nat.pow_le_pow_right (by decide) m24)
theorem mR_s {y : Yy} {m p : Nat} (hp : p < m) (h1 : y 6 p = 1) : mR y m (yRk y p m) ||| 2 ^ p = mR y m (yRk y p m + 1) := by
  apply Nat.eq_of_testBit_eq
  intro i
  rw [Nat.testBit_or, mR_tb, mR_tb, Nat.testBit_two_pow]
  rw [← Bool.decide_or]
  refine decide_eq_decide.mpr ⟨fun w => ?_, fun w => ?_⟩
  · rcases w with w | w
    · exact ⟨w.1, w.2.1, by have := w.2.2; omega⟩
    · subst w
      exact ⟨hp, h1, by omega⟩
  · obtain ⟨w1, w2, w3⟩ := w
    rcases Nat.lt_or_ge (yRk y i m) (yRk y p m) with q | q
    · exact Or.inl ⟨w1, w2, q⟩
    · by_cases e : p = i
      · exact Or.inr e
      · exact absurd (by omega) (yRk_ne w1 hp w2 h1 (fun z => e z.symm))
theorem mR_0 {y : Yy} {m : Nat} : mR y m 0 = 0 := by
  apply Nat.eq_of_testBit_eq
  intro i
  rw [mR_tb, Nat.zero_testBit]
  exact decide_eq_false fun w => Nat.not_lt_zero _ w.2.2
set_option maxRecDepth 100000 in
theorem shl_a : ∀ p, p < 24 → ((nI p &&& 31).toBitVec.smod 32).toNat = p := by decide +kernel
theorem bit_n {N p : Nat} (hN : N < 2 ^ 24) (hp : p < 24) : (nI N >>> (nI p &&& 31)) &&& 1 = nI (N / 2 ^ p % 2) := by
  rw [pk_shrN (by omega) _ p (shl_a p hp), show (1 : Int32) = nI 1 from rfl, bn_and, Nat.and_one_is_mod]
theorem bit_0 {N p : Nat} (hN : N < 2 ^ 24) (hp : p < 24) (h : N.testBit p = false) : (nI N >>> (nI p &&& 31)) &&& 1 = 0 := by
  rw [bit_n hN hp]
  rw [Nat.testBit_eq_decide_div_mod_eq] at h
  have := of_decide_eq_false h
  rw [show N / 2 ^ p % 2 = 0 by omega]
  rfl
