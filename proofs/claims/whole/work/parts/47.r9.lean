/-! the answers are the same: how many plays yet, the best column, what it costs -/
theorem zPlay_lo {z : Zz} {m : Nat} {c a : Int32} {j : Nat} (hj : j < 6) : (zPlay z m c a).1 j = z j := by
  unfold zPlay
  split
  · show zFill _ m j = _
    rw [zFill_lo (by omega), zBook_lo (by omega), zPd_n (by omega)]
  · split
    · show zFill _ m j = _
      rw [zFill_lo (by omega)]
      unfold zLose zRoll
      split
      · rw [zPut_lo (by omega), pk_un (by omega), zBook_lo (by omega), zGr_lo (by omega), zPd_n (by omega)]
      · rw [pk_un (by omega), zBook_lo (by omega), zGr_lo (by omega), zPd_n (by omega)]
    · show zFill _ m j = _
      rw [zFill_lo (by omega)]
      unfold zWin
      rw [pk_un (by omega), pk_un (by omega), pk_un (by omega), zTake_n (by omega), zBook_lo (by omega), zGr_lo (by omega), zPd_n (by omega)]
theorem zp_Pd {z : Zz} {p j : Nat} : zp (zPd z) p j = zp z p j := zPd_n (by omega)
theorem zp_Gr {z : Zz} {p q j : Nat} (hj : j < 5) : zp (zGr z p) q j = zp z q j := by
  unfold zGr
  rw [zp_zs (by decide) (by omega), if_neg (by omega)]
theorem zPlay_p {z : Zz} {m q : Nat} {c a : Int32} {j : Nat} (hq : q < 24) (hj : j < 3) : zp (zPlay z m c a).1 q j = zp z q j := by
  unfold zPlay
  split
  · show zp (zFill _ m) q j = _
    rw [(zFill_p hq).1 j hj, zp_book hq (by omega), zp_Pd]
  · split
    · show zp (zFill _ m) q j = _
      rw [(zFill_p hq).1 j hj]
      unfold zLose zRoll
      split
      · rw [zp_zPut (by omega), if_neg (by omega), if_neg (by omega), zp_upd (by decide), zp_book hq (by omega), zp_Gr (by omega), zp_Pd]
      · rw [zp_upd (by decide), zp_book hq (by omega), zp_Gr (by omega), zp_Pd]
    · show zp (zFill _ m) q j = _
      rw [(zFill_p hq).1 j hj]
      unfold zWin zTake
      rw [zp_upd (by decide), zp_upd (by decide), zp_upd (by decide), z34n j (by omega) (Or.inr (by omega)), zp_book hq (by omega), zp_Gr (by omega), zp_Pd]
theorem zPlay_7 {z : Zz} {m : Nat} {c a : Int32} (h24 : m ≤ 24) (e : (zPlay z m c a).2 = 1) : (zPlay z m c a).1 7 = z 7 + z 0 := by
  revert e
  unfold zPlay
  split
  · intro e
    exact absurd (show (0 : Int32) = 1 from e) (by decide)
  · rename_i h6
    split
    · intro _
      show zFill _ m 7 = _
      rw [zFill_lo (by decide)]
      unfold zLose zRoll
      split
      · rw [zPut_lo (by decide), pk_un (by decide), zBook_lo (by decide), zGr_lo (by decide), zPd_v.2.1]
      · rw [pk_un (by decide), zBook_lo (by decide), zGr_lo (by decide), zPd_v.2.1]
    · intro e
      rcases zTop_cases (zPd z) m c with w | ⟨p, hp, w⟩
      · exact absurd w h6
      · exfalso
        have e2 : (10 : Int32) + zTop (zPd z) m c = 1 := e
        rw [w, n10p] at e2
        exact absurd ((nI_eq (b := 1) (by omega) (by decide)).mp e2) (by omega)
theorem zPf_st {m p : Nat} {c : Int32} {z : Zz} {n : Nat} (h : ¬ (zp z p 3 = 1 ∧ zp z p 4 / 10 = c)) : ∀ k, zPf m p c k z n = (z, n)
  | 0 => rfl
  | k + 1 => by rw [zPf_s, if_neg h]
theorem hRo_up {h h' : Nat → Nat} {c : Nat} (hc : c < 8) (h4 : ∀ x, x < 8 → h x ≤ 4) (h4' : ∀ x, x < 8 → h' x ≤ 4) (e : h' c = h c) (up : ∀ x, x < 8 → h x ≤ h' x) (hn : ¬ (0 ≤ hRo h c ∧ hRo h c < 8)) : ¬ (0 ≤ hRo h' c ∧ hRo h' c < 8) := by
  obtain ⟨L, R, hL, hR, e1⟩ := hRo_n hc h4
  obtain ⟨L', R', hL', hR', e2⟩ := hRo_n hc h4'
  have b0 := h4 c hc
  have low : h c < L + 2 ∧ h c < R + 2 := by
    rcases e1 with ⟨a1, a2, a3⟩ | ⟨a1, a2, a3⟩ | ⟨a1, a2, a3⟩
    · exact ⟨a1, a2⟩
    · exfalso
      refine hn ?_
      rw [a3]
      exact ⟨nI_pos' (by omega), nI_lt (b := 8) (by omega) (by omega)⟩
    · exfalso
      refine hn ?_
      have : 0 < c := by omega
      rw [a3, cm1 this]
      exact ⟨nI_pos' (by omega), nI_lt (b := 8) (by omega) (by omega)⟩
  have u1 : L ≤ L' := by
    rcases hL with ⟨q, rfl⟩ | ⟨q, rfl⟩
    · have := up (c - 1) (by omega)
      omega
    · omega
  have u2 : R ≤ R' := by
    rcases hR with ⟨q, rfl⟩ | ⟨q, rfl⟩
    · have := up (c + 1) (by omega)
      omega
    · omega
  rcases e2 with ⟨a1, a2, a3⟩ | ⟨a1, a2, a3⟩ | ⟨a1, a2, a3⟩
  · rw [a3]
    decide
  · exfalso; omega
  · exfalso; omega
section R9
variable {z z' : Zz} {y y' : Yy} {b m l p c t s q : Nat} {h : Nat → Nat} {cl : Nat → Nat → Nat}
theorem RS.full (H : RS b z) (hb : b ≤ 1000000) : ∃ N, N ≤ 199 ∧ (∀ n, n < N → z 7 + nI (n + 1) * z 0 < z 1) ∧ ¬ z 7 + nI (N + 1) * z 0 < z 1 := by
  obtain ⟨s1, ⟨a, ea, a1, a9⟩, ⟨d, ed, hd⟩, s4, ⟨si, es, hs⟩⟩ := H
  obtain ⟨N, h1, h2⟩ := pk_least (fun k => ¬ si + (k + 1) * a < d) ⟨199, by
    have := Nat.mul_le_mul_left 200 a1
    omega⟩
  have h199 : N ≤ 199 := by
    rcases Nat.lt_or_ge 199 N with w | w
    · have e := Decidable.not_not.mp (h2 199 w)
      have := Nat.mul_le_mul_left 200 a1
      omega
    · exact w
  have bd : ∀ n, n ≤ 199 → si + (n + 1) * a < 2147483648 := fun n hn => by
    have := Nat.mul_le_mul (show n + 1 ≤ 200 by omega) a9
    omega
  refine ⟨N, h199, fun n hn => ?_, ?_⟩
  · rw [es, ea, ed, pk_mul, nI_add]
    exact nI_lt (Decidable.not_not.mp (h2 n hn)) (by omega)
  · rw [es, ea, ed, pk_mul, nI_add]
    exact nI_nlt (Nat.not_lt.mp h1) (bd N h199)
theorem RC.bval (H : RC b z y m l h cl) (hc : c < 8) : zBval z m c = yVw y (yOut y h cl c 0) := by
  have m24 := H.1.1.2.1
  unfold zBval yVw
  rw [H.out hc 0]
  by_cases h0 : h c = 0
  · rw [show yOut y h cl c 0 = 0 from if_pos h0]
    rfl
  · rcases yOut_c y cl 0 h0 with ⟨g, e⟩ | ⟨g, r, e⟩ | ⟨g, r, e⟩
    · obtain ⟨t1, t2, t3⟩ := H.1.top hc h0
      have e10 : (10 : Int32) + nI (cl c (h c - 1)) - 10 = nI (cl c (h c - 1)) := by
        rw [n10p, show (10 : Int32) = nI 10 from rfl, pk_sub (by omega), Nat.add_sub_cancel_left]
      rw [e, e10, if_neg (by rw [n10p]; exact nI_nlt (b := 10) (by omega) (by omega)), if_neg (fun w => w.elim (nI_pos (by omega)) (nI_ge (b := 24) (by omega) (by decide)))]
      rw [nI_clamp (by omega)]
      exact (H.1.2.2.1 _ t2).1.2.2.1.symm
    · rw [e]
      rfl
    · rw [e]
      rfl
theorem RC.best (H : RC b z y m l h cl) : ∀ n, n ≤ 8 → zBc z m n = yBc y h cl n
  | 0, _ => rfl
  | n + 1, hn => by
    have e := H.best n (by omega)
    unfold zBc yBc
    rw [e, H.bval (by omega)]
/-- one play at a column, for a prize that is on its top -/
theorem RR.stp1 (H : RR b z y m l t s h cl) (hc : c < 8) (h0 : ¬ h c = 0) (k n : Nat) : zPf m (cl c (h c - 1)) (nI c) (k + 1) z n = zPf m (cl c (h c - 1)) (nI c) k (zPlay z m (nI c) 0).1 (n + 1) := by
  obtain ⟨f1, f2, f3, f4⟩ := H.1.1.2.2.2.2.1 c hc (h c - 1) (by omega)
  have b4 := H.1.1.h4 c hc
  rw [zPf_s, if_pos ⟨f3, by rw [f4, d10 (by omega) (by omega)]⟩]
theorem RR.stpW (H : RR b z y m l t s h cl) (hc : c < 8) (h0 : ¬ h c = 0) (e : 10 ≤ yOut y h cl c 0) (k n : Nat) : zp (zPf m (cl c (h c - 1)) (nI c) (k + 1) z n).1 (cl c (h c - 1)) 3 = 2 ∧ (zPf m (cl c (h c - 1)) (nI c) (k + 1) z n).2 = n + 1 := by
  obtain ⟨q, hq, hq8⟩ := H.1.2.2.2.1.2.2.2.1
  obtain ⟨l', t', s', h', cl', a1, a2, a3⟩ := H.play hq hq8 hc 0
  have w := (a3 h0).2.2 e
  rw [H.stp1 hc h0, zPf_st (fun v => by rw [w] at v; exact absurd v.1 (by decide))]
  exact ⟨w, rfl⟩
theorem RR.stpR (H : RR b z y m l t s h cl) (hc : c < 8) (h0 : ¬ h c = 0) (e : yOut y h cl c 0 = 2) (k n : Nat) : zp (zPf m (cl c (h c - 1)) (nI c) (k + 1) z n).1 (cl c (h c - 1)) 3 = 1 := by
  obtain ⟨q, hq, hq8⟩ := H.1.2.2.2.1.2.2.2.1
  obtain ⟨l', t', s', h', cl', a1, a2, a3⟩ := H.play hq hq8 hc 0
  obtain ⟨j, i, hj, hjc, hi, ei⟩ := (a3 h0).2.1 e
  obtain ⟨f1, f2, f3, f4⟩ := a1.1.1.2.2.2.2.1 j hj i hi
  have b4 := a1.1.1.h4 j hj
  rw [ei] at f3 f4
  rw [H.stp1 hc h0, zPf_st (fun v => by
    rw [f4, d10 (by omega) (by omega)] at v
    exact hjc ((nI_eq (by omega) (by omega)).mp v.2))]
  exact f3
def gr0 (z : Zz) : Int32 := if z 7 + z 0 < z 1 then z 2 else z 3
theorem RC.g0 (H : RC b z y m l h cl) : yGrip y 0 = gr0 z := by
  rw [← H.gp 0]
  unfold zGrip gr0
  rw [Int32.mul_zero, Int32.sub_zero]
/-- it slips and falls back: all is as it was but for what was paid -/
theorem RR.stpS (H : RR b z y m l t s h cl) (hc : c < 8) (h0 : ¬ h c = 0) (e : yOut y h cl c 0 = 1) : ∃ z' y' l' t' s' h' cl', RR (b + 9) z' y' m l' t' s' h' cl' ∧ h' c = h c ∧ cl' c (h' c - 1) = cl c (h c - 1) ∧ (∀ j, j < 6 → z' j = z j) ∧ z' 7 = z 7 + z 0 ∧ yLoad y' h' c (cl c (h c - 1)) 0 = yLoad y h c (cl c (h c - 1)) 0 ∧ (¬ (y 3 (cl c (h c - 1)) = 1 ∧ (0 ≤ hRo h c ∧ hRo h c < 8)) → ¬ (y' 3 (cl c (h c - 1)) = 1 ∧ (0 ≤ hRo h' c ∧ hRo h' c < 8))) ∧ ∀ k n, zPf m (cl c (h c - 1)) (nI c) (k + 1) z n = zPf m (cl c (h c - 1)) (nI c) k z' (n + 1) := by
  have h24 := H.1.1.1.2.1
  obtain ⟨q, hq, hq8⟩ := H.1.2.2.2.1.2.2.2.1
  obtain ⟨l', t', s', h', cl', a1, a2, a3⟩ := H.play hq hq8 hc 0
  obtain ⟨c1, c2, c3⟩ := (a3 h0).1 e
  obtain ⟨-, p2, -⟩ := H.1.1.2.2.2.2.1 c hc (h c - 1) (by omega)
  obtain ⟨⟨d1, d2, -⟩, -⟩ := H.1.1.2.2.1 _ p2
  obtain ⟨⟨d1', d2', -⟩, -⟩ := a1.1.1.2.2.1 _ p2
  rw [zPlay_p (by omega) (by decide)] at d1' d2'
  rw [e, if_neg (by decide)] at a2
  have k3 := d1'.trans d1.symm
  have k4 := d2'.trans d2.symm
  refine ⟨_, _, l', t', s', h', cl', a1, c1, ?_, fun j hj => zPlay_lo hj, zPlay_7 h24 a2, ?_, fun w v => ?_, fun k n => H.stp1 hc h0 k n⟩
  · rw [c1]
    exact c2 _ (by omega)
  · unfold yLoad
    rw [k3, k4, c1]
  · have w2 : ¬ (0 ≤ hRo h c ∧ hRo h c < 8) := fun x => w ⟨k3.symm.trans v.1, x⟩
    exact hRo_up hc H.1.1.h4 a1.1.1.h4 c1 c3 w2 v.2
theorem RC.out1 (H : RC b z y m l h cl) (h0 : ¬ h c = 0) (g : gr0 z < yLoad y h c (cl c (h c - 1)) 0) (r : ¬ (y 3 (cl c (h c - 1)) = 1 ∧ (0 ≤ hRo h c ∧ hRo h c < 8))) : yOut y h cl c 0 = 1 := by
  rw [← H.g0] at g
  rcases yOut_c y cl 0 h0 with ⟨w, e⟩ | ⟨w, w2, e⟩ | ⟨w, w2, e⟩
  · exact absurd g w
  · exact absurd w2 r
  · exact e
theorem RC.out10 (H : RC b z y m l h cl) (hc : c < 8) (h0 : ¬ h c = 0) (g : ¬ gr0 z < yLoad y h c (cl c (h c - 1)) 0) : 10 ≤ yOut y h cl c 0 := by
  have h24 := H.1.1.2.1
  obtain ⟨-, p2, -⟩ := H.1.2.2.2.2.1 c hc (h c - 1) (by omega)
  rw [← H.g0] at g
  rcases yOut_c y cl 0 h0 with ⟨w, e⟩ | ⟨w, w2, e⟩ | ⟨w, w2, e⟩
  · rw [e, n10p]
    exact nI_le (a := 10) (by omega) (by omega)
  · exact absurd w g
  · exact absurd w g
theorem full_dn (H : RS b z) (hb : b ≤ 1000000) (e : z 7 + z 0 + z 0 < z 1) : z 7 + z 0 < z 1 := by
  obtain ⟨s1, ⟨a, ea, a1, a9⟩, ⟨d, ed, hd⟩, s4, ⟨si, es, hs⟩⟩ := H
  rw [es, ea, ed, nI_add] at e ⊢
  rw [nI_add] at e
  have := (nI_ltI (by omega) (by omega)).mp e
  exact nI_lt (by omega) (by omega)
/-- never won -/
theorem RR.nev : ∀ (k b : Nat) (z : Zz) (y : Yy) (l t s : Nat) (h : Nat → Nat) (cl : Nat → Nat → Nat) (n p : Nat), RR b z y m l t s h cl → b + 9 * k ≤ 1000000 → c < 8 → ¬ h c = 0 → cl c (h c - 1) = p → ¬ (y 3 p = 1 ∧ (0 ≤ hRo h c ∧ hRo h c < 8)) → z 3 < yLoad y h c p 0 → (z 7 + z 0 < z 1 → z 2 < yLoad y h c p 0) → zp (zPf m p (nI c) k z n).1 p 3 = 1 := by
  intro k
  induction k with
  | zero =>
    intro b z y l t s h cl n p H hb hc h0 hp r g3 g2
    subst hp
    exact (H.1.1.top hc h0).2.2
  | succ k ih =>
    intro b z y l t s h cl n p H hb hc h0 hp r g3 g2
    subst hp
    have g : gr0 z < yLoad y h c (cl c (h c - 1)) 0 := by
      unfold gr0
      split
      · rename_i w
        exact g2 w
      · exact g3
    obtain ⟨z', y', l', t', s', h', cl', a1, a2, a3, a4, a5, a6, a7, a8⟩ := H.stpS hc h0 (H.1.out1 h0 g r)
    rw [a8]
    refine ih (b + 9) z' y' l' t' s' h' cl' (n + 1) _ a1 (by omega) hc (by omega) a3 (a7 r) ?_ fun w => ?_
    · rw [a4 3 (by decide), a6]
      exact g3
    · rw [a4 2 (by decide), a6]
      rw [a5, a4 0 (by decide), a4 1 (by decide)] at w
      exact g2 (full_dn H.1.2.2.2.1 (by omega) w)
theorem ful_s {z z' : Zz} {b : Nat} (H : RS b z) (e7 : z' 7 = z 7 + z 0) (e0 : z' 0 = z 0) (i : Nat) : z' 7 + nI (i + 1) * z' 0 = z 7 + nI (i + 1 + 1) * z 0 := by
  obtain ⟨s1, ⟨a, ea, a1, a9⟩, -, -, ⟨si, es, hs⟩⟩ := H
  rw [e7, e0, es, ea, pk_mul, pk_mul, nI_add, nI_add, nI_add, Nat.succ_mul (i + 1) a]
  refine congrArg nI ?_
  omega
/-- won with the grip full -/
theorem RR.won : ∀ (M k b : Nat) (z : Zz) (y : Yy) (l t s : Nat) (h : Nat → Nat) (cl : Nat → Nat → Nat) (n p : Nat), RR b z y m l t s h cl → c < 8 → ¬ h c = 0 → cl c (h c - 1) = p → ¬ (y 3 p = 1 ∧ (0 ≤ hRo h c ∧ hRo h c < 8)) → (∀ i, i < M → z 7 + nI (i + 1) * z 0 < z 1) → ¬ z 7 + nI (M + 1) * z 0 < z 1 → ¬ z 3 < yLoad y h c p 0 → z 2 < yLoad y h c p 0 → M < k → zp (zPf m p (nI c) k z n).1 p 3 = 2 ∧ (zPf m p (nI c) k z n).2 = n + M + 1 := by
  intro M
  have one : ∀ x : Int32, nI (0 + 1) * x = x := fun x => Int32.one_mul x
  induction M with
  | zero =>
    intro k b z y l t s h cl n p H hc h0 hp r f1 f2 g3 g2 hk
    subst hp
    obtain ⟨k, rfl⟩ : ∃ k', k = k' + 1 := ⟨k - 1, by omega⟩
    rw [one] at f2
    have g : ¬ gr0 z < yLoad y h c (cl c (h c - 1)) 0 := by
      unfold gr0
      rw [if_neg f2]
      exact g3
    exact H.stpW hc h0 (H.1.out10 hc h0 g) k n
  | succ M ih =>
    intro k b z y l t s h cl n p H hc h0 hp r f1 f2 g3 g2 hk
    subst hp
    obtain ⟨k, rfl⟩ : ∃ k', k = k' + 1 := ⟨k - 1, by omega⟩
    have f0 := f1 0 (by omega)
    rw [one] at f0
    have g : gr0 z < yLoad y h c (cl c (h c - 1)) 0 := by
      unfold gr0
      rw [if_pos f0]
      exact g2
    obtain ⟨z', y', l', t', s', h', cl', a1, a2, a3, a4, a5, a6, a7, a8⟩ := H.stpS hc h0 (H.1.out1 h0 g r)
    have fs := ful_s H.1.2.2.2.1 a5 (a4 0 (by decide))
    obtain ⟨r1, r2⟩ := ih k (b + 9) z' y' l' t' s' h' cl' (n + 1) _ a1 hc (by omega) a3 (a7 r) (fun i hi => by
      rw [fs, a4 1 (by decide)]
      exact f1 (i + 1) (by omega)) (by
      rw [fs, a4 1 (by decide)]
      exact f2) (by
      rw [a4 3 (by decide), a6]
      exact g3) (by
      rw [a4 2 (by decide), a6]
      exact g2) (by omega)
    rw [a8]
    exact ⟨r1, by rw [r2]; omega⟩
theorem RR.costs {N : Nat} (H : RR b z y m l t s h cl) (hb : b ≤ 900000) (hc : c < 8) (h0 : ¬ h c = 0) (hN : N ≤ 199) (hN1 : ∀ n, n < N → z 7 + nI (n + 1) * z 0 < z 1) (hN2 : ¬ z 7 + nI (N + 1) * z 0 < z 1) : zCo z m (nI c) = yCst y h cl c N := by
  have h24 := H.1.1.1.2.1
  obtain ⟨t1, t2, t3⟩ := H.1.1.top hc h0
  have n0 : y 1 0 = z 0 := H.1.2.1.2 0 (by decide)
  have n3 : y 1 3 = z 3 := H.1.2.1.2 3 (by decide)
  unfold zCo yCst
  rw [t1, nI_clamp (by omega), n0, n3]
  have eg := H.1.g0
  rcases yOut_c y cl 0 h0 with ⟨g, e⟩ | ⟨g, r, e⟩ | ⟨g, r, e⟩
  · have e10 : 10 ≤ yOut y h cl c 0 := by
      rw [e, n10p]
      exact nI_le (a := 10) (by omega) (by omega)
    obtain ⟨w1, w2⟩ := H.stpW hc h0 e10 299 0
    rw [if_pos w1, if_pos e10, w2]
    exact Int32.one_mul _
  · rw [if_neg (by rw [H.stpR hc h0 e 299 0]; decide), if_neg (by rw [e]; decide), if_pos (Or.inl e)]
  · have e10 : ¬ 10 ≤ yOut y h cl c 0 := by
      rw [e]
      decide
    have e2 : ¬ yOut y h cl c 0 = 2 := by
      rw [e]
      decide
    rw [if_neg e10]
    rw [eg] at g
    by_cases g3 : z 3 < yLoad y h c (cl c (h c - 1)) 0
    · rw [if_pos (Or.inr g3)]
      have w := RR.nev (m := m) (c := c) 300 b z y l t s h cl 0 _ H (by omega) hc h0 rfl r g3 (fun f => by
        unfold gr0 at g
        rw [if_pos f] at g
        exact g)
      rw [if_neg (by rw [w]; decide)]
    · have g2 : z 2 < yLoad y h c (cl c (h c - 1)) 0 := by
        unfold gr0 at g
        split at g
        · exact g
        · exact absurd g g3
      obtain ⟨w1, w2⟩ := RR.won (m := m) (c := c) N 300 b z y l t s h cl 0 _ H hc h0 rfl r hN1 hN2 g3 g2 (by omega)
      rw [if_pos w1, w2, Nat.zero_add]
      exact (if_neg (fun w => w.elim e2 g3)).symm
end R9
