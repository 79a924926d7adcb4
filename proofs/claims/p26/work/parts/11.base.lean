/-! the reference's small methods: what they answer, in the words of its one array z -/
theorem cat_j {x : Int64} : (Value.long x).category = 2 := rfl
theorem vz_0 : vp_in 0 201 = True := eq_true (by unfold vp_in; decide)
theorem vz_1 : vp_in 1 201 = True := eq_true (by unfold vp_in; decide)
theorem vz_2 : vp_in 2 201 = True := eq_true (by unfold vp_in; decide)
theorem vz_3 : vp_in 3 201 = True := eq_true (by unfold vp_in; decide)
theorem vz_4 : vp_in 4 201 = True := eq_true (by unfold vp_in; decide)
theorem vz_5 : vp_in 5 201 = True := eq_true (by unfold vp_in; decide)
theorem vz_6 : vp_in 6 201 = True := eq_true (by unfold vp_in; decide)
theorem vz_7 : vp_in 7 201 = True := eq_true (by unfold vp_in; decide)
theorem vz_8 : vp_in 8 201 = True := eq_true (by unfold vp_in; decide)
theorem vz_9 : vp_in 9 201 = True := eq_true (by unfold vp_in; decide)
theorem vz_10 : vp_in 10 201 = True := eq_true (by unfold vp_in; decide)
theorem vz_11 : vp_in 11 201 = True := eq_true (by unfold vp_in; decide)
theorem vz_12 : vp_in 12 201 = True := eq_true (by unfold vp_in; decide)
theorem vz_13 : vp_in 13 201 = True := eq_true (by unfold vp_in; decide)
theorem vz_14 : vp_in 14 201 = True := eq_true (by unfold vp_in; decide)
theorem vz_15 : vp_in 15 201 = True := eq_true (by unfold vp_in; decide)
theorem vz_160 : vp_in 160 201 = True := eq_true (by unfold vp_in; decide)
theorem vz_161 : vp_in 161 201 = True := eq_true (by unfold vp_in; decide)
theorem vz_162 : vp_in 162 201 = True := eq_true (by unfold vp_in; decide)
theorem vz_163 : vp_in 163 201 = True := eq_true (by unfold vp_in; decide)
theorem vz_164 : vp_in 164 201 = True := eq_true (by unfold vp_in; decide)
theorem vs_0 : vp_in 0 6 = True := eq_true (by unfold vp_in; decide)
theorem vs_1 : vp_in 1 6 = True := eq_true (by unfold vp_in; decide)
theorem vs_2 : vp_in 2 6 = True := eq_true (by unfold vp_in; decide)
theorem vs_3 : vp_in 3 6 = True := eq_true (by unfold vp_in; decide)
theorem vs_4 : vp_in 4 6 = True := eq_true (by unfold vp_in; decide)
theorem vs_5 : vp_in 5 6 = True := eq_true (by unfold vp_in; decide)
theorem tn_160 : (160 : Int32).toNatClampNeg = 160 := rfl
theorem tn_161 : (161 : Int32).toNatClampNeg = 161 := rfl
theorem tn_162 : (162 : Int32).toNatClampNeg = 162 := rfl
theorem tn_163 : (163 : Int32).toNatClampNeg = 163 := rfl
theorem tn_164 : (164 : Int32).toNatClampNeg = 164 := rfl
abbrev ar (k n : Nat) (f : Nat → Int32) : Option En := some (.inl ((k, n), f))
/-- a prize's row in z -/
def zp (z : Nat → Int32) (p k : Nat) : Int32 := z (16 + 6 * p + k)
def zCnt (z : Nat → Int32) (c : Int32) : Nat → Nat
  | 0 => 0
  | i + 1 => zCnt z c i + if zp z i 3 = 1 ∧ zp z i 4 / 10 = c then 1 else 0
def zAt (z : Nat → Int32) (p : Int32) : Nat → Int32
  | 0 => -6
  | i + 1 => if zp z i 3 = 1 ∧ zp z i 4 = p then nI i else zAt z p i
def zMany (z : Nat → Int32) (c : Int32) : Nat → Nat
  | 0 => 0
  | i + 1 => zMany z c i + if zp z i 3 = c then 1 else 0
def zSet (z : Nat → Int32) (c : Int32) : Nat → Int32
  | 0 => 0
  | i + 1 => zSet z c i ||| (if zp z i 3 = c then (1 : Int32) <<< (nI i &&& 31) else 0)
theorem zCnt_le (z : Nat → Int32) (c : Int32) : ∀ i, zCnt z c i ≤ i
  | 0 => Nat.le_refl _
  | i + 1 => by
    have := zCnt_le z c i
    unfold zCnt
    split <;> omega
theorem zMany_le (z : Nat → Int32) (c : Int32) : ∀ i, zMany z c i ≤ i
  | 0 => Nat.le_refl _
  | i + 1 => by
    have := zMany_le z c i
    unfold zMany
    split <;> omega
theorem nI_ge' {a b : Nat} (h : a < b) (hb : b < 2147483648) : ¬ nI b ≤ nI a := nI_ge h hb
section M1
variable {G : Gx} {d : Nat} {w : Wd} {z : Nat → Int32} {st ty sp tm : Int32} {Q : Option Value → Wd → Prop} {m : Nat}
/-- the first prize from i on that is in the store; m if there is none -/
def zNx (z : Nat → Int32) (m : Nat) : Nat → Nat → Nat
  | 0, i => i
  | k + 1, i => if zp z i 3 = 0 then i else zNx z m k (i + 1)
theorem zNx_le (z : Nat → Int32) (m : Nat) : ∀ k i, zNx z m k i ≤ i + k
  | 0, i => Nat.le_refl _
  | k + 1, i => by
    have := zNx_le z m k (i + 1)
    unfold zNx
    split <;> omega
def zNext (z : Nat → Int32) (m : Nat) : Int32 := if zNx z m m 0 < m then nI (zNx z m m 0) else -6
def zTop (z : Nat → Int32) (m : Nat) (c : Int32) : Int32 := if zCnt z c m = 0 then -6 else zAt z (10 * c + nI (zCnt z c m) - 1) m
end M1

/-! the reference: worlds, copies, states -/
def bI (p : Prop) [Decidable p] : Int32 := if p then 1 else 0
theorem bI_t {p : Prop} [Decidable p] (h : p) : bI p = 1 := if_pos h
theorem bI_f {p : Prop} [Decidable p] (h : ¬ p) : bI p = 0 := if_neg h
theorem bI_0 {p : Prop} [Decidable p] : (bI p = 0) = ¬ p := by
  by_cases h : p
  · rw [bI_t h]; simp [h]
  · rw [bI_f h]; simp [h]
theorem ret_b {p : Prop} [Decidable p] : (∃ ty, some FieldType.boolean = some ty ∧ narrow ty (.int (bI p)) = .int (bI p)) = True := by
  by_cases h : p
  · rw [bI_t h]; exact ret_1
  · rw [bI_f h]; exact ret_0
variable {w : Wd} {z spare past slots sv pd told : Nat → Int32} {st ty sp tm : Int32}
section M2
variable {G : Gx} {d : Nat} {w : Wd} {z spare past slots sv pd told : Nat → Int32} {st ty sp tm : Int32} {Q : Option Value → Wd → Prop} {m : Nat}
theorem va_cpy0 {f g : Nat → Int32} {a b : Nat} : va_cpy f g a b 0 = g := by
  funext j
  unfold va_cpy
  rw [if_neg (by omega)]
theorem va_cpyS {f g : Nat → Int32} {a b k : Nat} : upd (va_cpy f g a b k) (b + k) (f (a + k)) = va_cpy f g a b (k + 1) := by
  funext j
  unfold va_cpy upd
  by_cases h : j = b + k
  · subst h
    rw [if_pos rfl, if_pos (by omega), Nat.add_sub_cancel_left]
  · rw [if_neg h]
    dsimp only
    by_cases h2 : b ≤ j ∧ j < b + k
    · rw [if_pos h2, if_pos (by omega)]
    · rw [if_neg h2, if_neg (by omega)]
theorem up_up {w : Wd} {i : Nat} {e e' : Option En} : va_up (va_up w i e) i e' = va_up w i e' := by
  funext j
  unfold va_up
  split <;> rfl
theorem up_same {w : Wd} {i : Nat} {e : Option En} (h : w i = e) : va_up w i e = w := by
  funext j
  unfold va_up
  split
  · next h2 => rw [h2, h]
  · rfl
theorem tmul (n : Nat) : (201 : Int32) * nI n = nI (201 * n) := pk_mul 201 n
/-- the past with one state more; the oldest of six is dropped -/
def recP (z past : Nat → Int32) (s : Nat) : Nat → Int32 := va_cpy z (if s = 6 then fun j => if j < 1005 then past (j + 201) else past j else past) 0 (201 * (if s = 6 then 5 else s)) 201
def recS (s : Nat) : Nat := if s = 6 then 6 else s + 1
end M2

/-! the reference: states kept, prizes moved, rules of a play -/
section M3
variable {G : Gx} {d : Nat} {w : Wd} {z spare past slots sv pd told : Nat → Int32} {st ty sp tm : Int32} {Q : Option Value → Wd → Prop} {m : Nat}
theorem zt2 {v : Int32} (h : 0 ≤ v ∧ v ≤ 1) : v = 0 ∨ v = 1 := by
  obtain ⟨j, hj, rfl⟩ := nI_of2 (M := 1) (n := 1) rfl (Int32.not_lt.mpr h.1) h.2
  match j, hj with
  | 0, _ => exact Or.inl rfl
  | 1, _ => exact Or.inr rfl
def zset (z : Nat → Int32) (p k : Nat) (v : Int32) : Nat → Int32 := upd z (16 + 6 * p + k) v
def zPut (z : Nat → Int32) (m p : Nat) (c : Int32) : Nat → Int32 := zset (zset z p 3 1) p 4 (10 * c + nI (zCnt z c m))
def zTake (z : Nat → Int32) (p : Nat) (v : Int32) : Nat → Int32 := zset (zset z p 3 v) p 4 (-6)
def zLw (z : Nat → Int32) (m : Nat) : Nat → Nat
  | 0 => 0
  | k + 1 => if zCnt z (nI (k + 1)) m < zCnt z (nI (zLw z m k)) m then k + 1 else zLw z m k
theorem zLw_le (z : Nat → Int32) (m : Nat) : ∀ k, zLw z m k ≤ k
  | 0 => Nat.le_refl _
  | k + 1 => by
    have := zLw_le z m k
    unfold zLw
    split <;> omega
end M3

/-! the reference: loads, grips, rolling, the book -/
def zLoad (z : Nat → Int32) (m p : Nat) (c aim : Int32) : Int32 := zp z p 1 + (if zp z p 0 = 1 ∧ 0 < aim then 5 else if zp z p 0 = 2 then 2 * (nI (zCnt z c m) - 1) else 0)
def zGrip (z : Nat → Int32) (since aim : Int32) : Int32 := (if since < z 1 then z 2 else z 3) - z 4 * aim
def zL (z : Nat → Int32) (m : Nat) (c : Int32) : Int32 := if 0 < c ∧ nI (zCnt z (c - 1) m) ≤ nI (zCnt z c m) - 2 then c - 1 else -6
def zR (z : Nat → Int32) (m : Nat) (c : Int32) : Int32 := if c < 7 ∧ nI (zCnt z (c + 1) m) ≤ nI (zCnt z c m) - 2 then c + 1 else -6
def zTo (z : Nat → Int32) (m : Nat) (c : Int32) : Int32 := if zL z m c = -6 ∨ (zR z m c ≠ -6 ∧ nI (zCnt z (zR z m c) m) < nI (zCnt z (zL z m c) m)) then zR z m c else zL z m c
def zSh (z : Nat → Int32) (i : Nat) : Nat → Int32 := fun j => if 161 + i < j ∧ j ≤ 200 then z (j - 4) else z j
def zBook (z : Nat → Int32) (what col prize full : Int32) : Nat → Int32 := upd (upd (upd (upd (upd (zSh z 3) 161 what) 162 col) 163 prize) 164 full) 160 (if z 160 < 10 then z 160 + 1 else 10)
theorem zSh_39 (z : Nat → Int32) : zSh z 39 = z := by
  funext j
  unfold zSh
  rw [if_neg]
  omega
section M4
variable {G : Gx} {d : Nat} {w : Wd} {z spare past slots sv pd told : Nat → Int32} {st ty sp tm : Int32} {Q : Option Value → Wd → Prop} {m : Nat}
theorem zSh_s (z : Nat → Int32) {i : Nat} (hi : 3 ≤ i) (h : i < 39) : upd (zSh z (i + 1)) (161 + (i + 1)) (zSh z (i + 1) (161 + (i + 1) - 4)) = zSh z i := by
  funext j
  unfold zSh upd
  by_cases h1 : j = 161 + (i + 1)
  · subst h1
    rw [if_pos rfl, if_neg (by omega), if_pos (by omega)]
  · rw [if_neg h1]
    dsimp only
    by_cases h2 : 161 + (i + 1) < j ∧ j ≤ 200
    · rw [if_pos h2, if_pos (by omega)]
    · rw [if_neg h2, if_neg (by omega)]

end M4

/-! the reference: filling up, plays -/
def zFl (m : Nat) : Nat → (Nat → Int32) → Nat → (Nat → Int32) × Nat
  | 0, z, n => (z, n)
  | k + 1, z, n => if nI (zMany z 1 m) < z 5 ∧ zNx z m m 0 < m ∧ zCnt z (nI (zLw z m 7)) m < 4 then zFl m k (zPut z m (zNx z m m 0) (nI (zLw z m 7))) (n + 1) else (z, n)
theorem zFl_s {m k : Nat} {z : Nat → Int32} {n : Nat} : zFl m (k + 1) z n = if nI (zMany z 1 m) < z 5 ∧ zNx z m m 0 < m ∧ zCnt z (nI (zLw z m 7)) m < 4 then zFl m k (zPut z m (zNx z m m 0) (nI (zLw z m 7))) (n + 1) else (z, n) := rfl
def zFill (z : Nat → Int32) (m : Nat) : Nat → Int32 := if (zFl m 25 z 0).2 = 0 then (zFl m 25 z 0).1 else zBook (upd (zFl m 25 z 0).1 14 ((zFl m 25 z 0).1 14 + 1)) 3 (-6) (nI (zFl m 25 z 0).2) 0
theorem zset_lo {z : Nat → Int32} {p k j : Nat} {v : Int32} (h : j < 16) : zset z p k v j = z j := pk_un (by omega)
theorem zPut_lo {z : Nat → Int32} {m p j : Nat} {c : Int32} (h : j < 16) : zPut z m p c j = z j := (zset_lo h).trans (zset_lo h)
theorem zp_zset {z : Nat → Int32} {p k q j : Nat} {v : Int32} (hk : k < 6) (hj : j < 6) : zp (zset z p k v) q j = if q = p ∧ j = k then v else zp z q j := by
  unfold zp zset upd
  by_cases h : q = p ∧ j = k
  · rw [if_pos h, if_pos (by omega)]
  · rw [if_neg h, if_neg (by omega)]
theorem zp_zPut {z : Nat → Int32} {m p q j : Nat} {c : Int32} (hj : j < 6) : zp (zPut z m p c) q j = if q = p ∧ j = 4 then 10 * c + nI (zCnt z c m) else if q = p ∧ j = 3 then 1 else zp z q j := by
  unfold zPut
  rw [zp_zset (by decide) hj, zp_zset (by decide) hj]
theorem zMany_z {z z2 : Nat → Int32} {v : Int32} : ∀ {n : Nat}, (∀ q, q < n → zp z2 q 3 = zp z q 3) → zMany z2 v n = zMany z v n
  | 0, _ => rfl
  | n + 1, h => by
    unfold zMany
    rw [zMany_z (fun q hq => h q (by omega)), h n (by omega)]
theorem zMany_one {z z2 : Nat → Int32} {v : Int32} {p : Nat} : ∀ {n : Nat}, p < n → (∀ q, q < n → q ≠ p → zp z2 q 3 = zp z q 3) → zMany z2 v n + (if zp z p 3 = v then 1 else 0) = zMany z v n + (if zp z2 p 3 = v then 1 else 0)
  | 0, h, _ => absurd h (Nat.not_lt_zero _)
  | n + 1, h, hq => by
    unfold zMany
    by_cases e : p = n
    · subst e
      rw [zMany_z (fun q h2 => hq q (by omega) (by omega))]
      omega
    · rw [hq n (by omega) (fun q => e q.symm)]
      have := zMany_one (z := z) (z2 := z2) (v := v) (p := p) (n := n) (by omega) (fun q h1 h2 => hq q (by omega) h2)
      omega
theorem zNx_in {z : Nat → Int32} {m : Nat} : ∀ {k i : Nat}, zNx z m k i < i + k → zp z (zNx z m k i) 3 = 0
  | 0, i, h => absurd h (by unfold zNx; omega)
  | k + 1, i, h => by
    unfold zNx at h ⊢
    by_cases e : zp z i 3 = 0
    · rw [if_pos e]; exact e
    · rw [if_neg e] at h ⊢
      exact zNx_in (by omega)
theorem zMany_pos {z : Nat → Int32} {v : Int32} {p : Nat} : ∀ {n : Nat}, p < n → zp z p 3 = v → 0 < zMany z v n
  | 0, h, _ => absurd h (Nat.not_lt_zero _)
  | n + 1, h, e => by
    unfold zMany
    by_cases q : p = n
    · subst q; rw [if_pos e]; omega
    · have := zMany_pos (n := n) (p := p) (z := z) (v := v) (by omega) e
      omega
section M5
variable {G : Gx} {d : Nat} {w : Wd} {z spare past slots sv pd told : Nat → Int32} {st ty sp tm : Int32} {Q : Option Value → Wd → Prop} {m : Nat}
theorem zNext_ne {z : Nat → Int32} {m : Nat} (h24 : m ≤ 24) : zNext z m = -6 ↔ ¬ zNx z m m 0 < m := by
  unfold zNext
  by_cases h : zNx z m m 0 < m
  · rw [if_pos h]
    refine ⟨fun q => ?_, fun q => absurd h q⟩
    exact absurd (show nI (zNx z m m 0) < 0 by rw [q]; decide) (nI_pos (by omega))
  · rw [if_neg h]
    exact ⟨fun _ => h, fun _ => rfl⟩
end M5

/-! the reference: a play -/
theorem i1_0 : ((1 : Int32) = 0) = False := eq_false (by decide)
def zRoll (z : Nat → Int32) (m p : Nat) (c : Int32) : Nat → Int32 := if zp z p 0 = 1 ∧ zTo z m c ≠ -6 then zPut z m p (zTo z m c) else z
def zF (z : Nat → Int32) : Int32 := bI (¬ z 7 + z 0 < z 1)
def zP4 (z : Nat → Int32) : Nat → Int32 := upd (upd (upd (upd z 6 (z 6 - z 0)) 7 (z 7 + z 0)) 8 (z 8 + z 0)) 9 (z 9 + 1)
def zPd (z : Nat → Int32) : Nat → Int32 := upd (zP4 z) 10 (z 10 + zF z)
def zGr (z : Nat → Int32) (p : Nat) : Nat → Int32 := zset z p 5 (zp z p 5 + 1)
def zLose (z : Nat → Int32) (m p : Nat) (c F : Int32) : Nat → Int32 := zRoll (upd (zBook z 1 c (nI p) F) 12 (z 12 + 1)) m p c
def zWin (z : Nat → Int32) (p : Nat) (c F : Int32) : Nat → Int32 := upd (upd (upd (zTake (zBook z 2 c (nI p) F) p 2) 7 0) 11 (z 11 + 1)) 13 (z 13 + zp z p 2)
def zPlay (z : Nat → Int32) (m : Nat) (c aim : Int32) : (Nat → Int32) × Int32 :=
  if zTop (zPd z) m c = -6 then (zFill (zBook (zPd z) 0 c (-6) (zF z)) m, 0)
  else if zGrip (zPd z) (z 7 + z 0) aim < zLoad (zPd z) m (zTop (zPd z) m c).toNatClampNeg c aim then (zFill (zLose (zGr (zPd z) (zTop (zPd z) m c).toNatClampNeg) m (zTop (zPd z) m c).toNatClampNeg c (zF z)) m, 1)
  else (zFill (zWin (zGr (zPd z) (zTop (zPd z) m c).toNatClampNeg) (zTop (zPd z) m c).toNatClampNeg c (zF z)) m, 10 + zTop (zPd z) m c)
theorem zBook_lo {z : Nat → Int32} {a b c e : Int32} {j : Nat} (h : j < 160) : zBook z a b c e j = z j := by
  unfold zBook
  rw [pk_un (by omega), pk_un (by omega), pk_un (by omega), pk_un (by omega), pk_un (by omega)]
  unfold zSh
  rw [if_neg (by omega)]
theorem zp_book {z : Nat → Int32} {a b c e : Int32} {q j : Nat} (hq : q < 24) (hj : j < 6) : zp (zBook z a b c e) q j = zp z q j := zBook_lo (by omega)
theorem zp_upd {z : Nat → Int32} {k q j : Nat} {v : Int32} (hk : k < 16) : zp (upd z k v) q j = zp z q j := pk_un (by omega)
theorem zAt_cases (z : Nat → Int32) (c : Int32) : ∀ n, zAt z c n = -6 ∨ ∃ p, p < n ∧ zAt z c n = nI p
  | 0 => Or.inl rfl
  | n + 1 => by
    unfold zAt
    by_cases h : zp z n 3 = 1 ∧ zp z n 4 = c
    · rw [if_pos h]; exact Or.inr ⟨n, by omega, rfl⟩
    · rw [if_neg h]
      rcases zAt_cases z c n with q | ⟨p, h1, h2⟩
      · exact Or.inl q
      · exact Or.inr ⟨p, by omega, h2⟩
theorem zTop_cases (z : Nat → Int32) (m : Nat) (c : Int32) : zTop z m c = -6 ∨ ∃ p, p < m ∧ zTop z m c = nI p := by
  unfold zTop
  by_cases h : zCnt z c m = 0
  · rw [if_pos h]; exact Or.inl rfl
  · rw [if_neg h]; exact zAt_cases z _ m
theorem zCnt_z {z z2 : Nat → Int32} {c : Int32} : ∀ {n : Nat}, (∀ q, q < n → zp z2 q 3 = zp z q 3 ∧ zp z2 q 4 = zp z q 4) → zCnt z2 c n = zCnt z c n
  | 0, _ => rfl
  | n + 1, h => by
    unfold zCnt
    rw [zCnt_z (fun q hq => h q (by omega)), (h n (by omega)).1, (h n (by omega)).2]
theorem nI_m6 {p : Nat} (h : p < 2147483648) : nI p ≠ -6 := fun q => absurd (show nI p < 0 by rw [q]; decide) (nI_pos h)
theorem zGr_lo {z : Nat → Int32} {p j : Nat} (h : j < 16) : zGr z p j = z j := zset_lo h
theorem zLoad_Gr {z : Nat → Int32} {m p : Nat} {c aim : Int32} : zLoad (zGr z p) m p c aim = zLoad z m p c aim := by
  unfold zLoad
  rw [zCnt_z (z := z) (fun q _ => ⟨by unfold zGr; rw [zp_zset (by decide) (by decide)]; simp, by unfold zGr; rw [zp_zset (by decide) (by decide)]; simp⟩)]
  unfold zGr
  rw [zp_zset (by decide) (by decide), zp_zset (by decide) (by decide)]
  simp
section M6
variable {G : Gx} {d : Nat} {w : Wd} {z spare past slots sv pd told : Nat → Int32} {st ty sp tm : Int32} {Q : Option Value → Wd → Prop} {m : Nat}
end M6

/-! the reference: the changes -/
def vOk (s v : Int32) : Prop := (s = 0 ∧ 1 ≤ v ∧ v ≤ 9) ∨ (s = 1 ∧ 1 ≤ v ∧ v ≤ 200) ∨ (s = 2 ∧ 1 ≤ v ∧ v ≤ 60) ∨ (s = 3 ∧ 1 ≤ v ∧ v ≤ 99) ∨ (s = 4 ∧ 0 ≤ v ∧ v ≤ 9) ∨ (s = 5 ∧ 0 ≤ v ∧ v ≤ 8)
def pOk (k g v : Int32) : Prop := (0 ≤ k ∧ k ≤ 2) ∧ (1 ≤ g ∧ g ≤ 60) ∧ (1 ≤ v ∧ v ≤ 99)
theorem nI_of3 {v : Int32} {n : Nat} (hn : n < 2147483648) (h1 : 0 ≤ v) (h2 : v ≤ nI n) : ∃ j, j ≤ n ∧ v = nI j := nI_of2 (M := nI n) (n := n) (nI_toInt (by omega)) (Int32.not_lt.mpr h1) h2
theorem vOk_s {s v : Int32} (h : vOk s v) : ∃ j, j < 6 ∧ s = nI j := by
  rcases h with h | h | h | h | h | h
  · exact ⟨0, by decide, h.1⟩
  · exact ⟨1, by decide, h.1⟩
  · exact ⟨2, by decide, h.1⟩
  · exact ⟨3, by decide, h.1⟩
  · exact ⟨4, by decide, h.1⟩
  · exact ⟨5, by decide, h.1⟩
def zPrz (z : Nat → Int32) (m : Nat) (k g v : Int32) : Nat → Int32 := upd (zset (zTake (zset (zset (zset z m 0 k) m 1 g) m 2 v) m 0) m 5 0) 15 (nI (m + 1))
def zWP (m : Nat) (k g v : Int32) (x : Int32) : Prop := (¬ pOk k g v ∧ x = -2) ∨ (pOk k g v ∧ m = 24 ∧ x = -4) ∨ (pOk k g v ∧ m ≠ 24 ∧ x = 0)
def zWA (z : Nat → Int32) (m : Nat) (c : Int32) (x : Int32) : Prop := (¬ (0 ≤ c ∧ c ≤ 7) ∧ x = -1) ∨ ((0 ≤ c ∧ c ≤ 7) ∧ ¬ zNx z m m 0 < m ∧ x = -5) ∨ ((0 ≤ c ∧ c ≤ 7) ∧ zNx z m m 0 < m ∧ zCnt z c m = 4 ∧ x = -4) ∨ ((0 ≤ c ∧ c ≤ 7) ∧ zNx z m m 0 < m ∧ zCnt z c m ≠ 4 ∧ x = 0)
def zWC (z : Nat → Int32) (v : Int32) (x : Int32) : Prop := (¬ (1 ≤ v ∧ v ≤ 99) ∧ x = -2) ∨ ((1 ≤ v ∧ v ≤ 99) ∧ 999 < z 6 + v ∧ x = -4) ∨ ((1 ≤ v ∧ v ≤ 99) ∧ ¬ 999 < z 6 + v ∧ x = 0)
def zWY (z : Nat → Int32) (c a : Int32) (x : Int32) : Prop := (¬ (0 ≤ c ∧ c ≤ 7) ∧ x = -1) ∨ ((0 ≤ c ∧ c ≤ 7) ∧ ¬ (0 ≤ a ∧ a ≤ 4) ∧ x = -2) ∨ ((0 ≤ c ∧ c ≤ 7) ∧ (0 ≤ a ∧ a ≤ 4) ∧ z 6 < z 0 ∧ x = -5) ∨ ((0 ≤ c ∧ c ≤ 7) ∧ (0 ≤ a ∧ a ≤ 4) ∧ ¬ z 6 < z 0 ∧ x = 0)
section M7
variable {G : Gx} {d : Nat} {w : Wd} {z spare past slots sv pd told : Nat → Int32} {st ty sp tm : Int32} {Q : Option Value → Wd → Prop} {m : Nat}
end M7

/-! the reference: what there is, what if -/
def zE (z : Nat → Int32) (p q : Nat) : Int32 := if zp z p 2 - zp z q 2 = 0 then zp z q 1 - zp z p 1 else zp z p 2 - zp z q 2
def zAhd (z : Nat → Int32) (p q : Nat) : Prop := 0 < zE z p q ∨ (zE z p q = 0 ∧ p < q)
def zAhdD (z : Nat → Int32) (p q : Nat) : Decidable (zAhd z p q) := by unfold zAhd; exact inferInstance
def zRk (z : Nat → Int32) (p : Nat) : Nat → Nat
  | 0 => 0
  | i + 1 => zRk z p i + if zp z i 3 = 1 ∧ i ≠ p ∧ (0 < zE z i p ∨ (zE z i p = 0 ∧ i < p)) then 1 else 0
theorem zRk_s {z : Nat → Int32} {p i : Nat} : zRk z p (i + 1) = zRk z p i + if zp z i 3 = 1 ∧ i ≠ p ∧ (0 < zE z i p ∨ (zE z i p = 0 ∧ i < p)) then 1 else 0 := rfl
theorem zRk_le (z : Nat → Int32) (c : Nat) : ∀ i, zRk z c i ≤ i
  | 0 => Nat.le_refl _
  | i + 1 => by
    have := zRk_le z c i
    unfold zRk
    split <;> omega
def zBv (z : Nat → Int32) (m : Nat) (r : Int32) : Nat → Int32
  | 0 => -1
  | i + 1 => if zp z i 3 = 1 ∧ nI (zRk z i m) = r then nI i else zBv z m r i
def zLi (z : Nat → Int32) (v : Int32) : Nat → Nat
  | 0 => 0
  | i + 1 => zLi z v i + if zp z i 3 = 1 ∧ zp z i 1 ≤ v then 1 else 0
theorem zLi_s {z : Nat → Int32} {v : Int32} {i : Nat} : zLi z v (i + 1) = zLi z v i + if zp z i 3 = 1 ∧ zp z i 1 ≤ v then 1 else 0 := rfl
def zEm (z : Nat → Int32) (m : Nat) : Nat → Int32
  | 0 => 0
  | i + 1 => zEm z m i ||| (if zCnt z (nI i) m = 0 then (1 : Int32) <<< (nI i &&& 31) else 0)
theorem zEm_s {z : Nat → Int32} {m i : Nat} : zEm z m (i + 1) = zEm z m i ||| (if zCnt z (nI i) m = 0 then (1 : Int32) <<< (nI i &&& 31) else 0) := rfl
def zIf (z : Nat → Int32) (m : Nat) (c a : Int32) : Int32 := if zTop z m c = -6 then 0 else if zGrip z (z 7 + z 0) a < zLoad z m (zTop z m c).toNatClampNeg c a then (if zp z (zTop z m c).toNatClampNeg 0 = 1 ∧ zTo z m c ≠ -6 then 2 else 1) else 10 + zTop z m c
def zBval (z : Nat → Int32) (m : Nat) (i : Nat) : Int32 := if zIf z m (nI i) 0 < 10 then 0 else zp z (zIf z m (nI i) 0 - 10).toNatClampNeg 2
def zBc (z : Nat → Int32) (m : Nat) : Nat → Int32 × Int32
  | 0 => (-6, 0)
  | i + 1 => if (zBc z m i).2 < zBval z m i then (nI i, zBval z m i) else zBc z m i
def zPf (m p : Nat) (c : Int32) : Nat → (Nat → Int32) → Nat → (Nat → Int32) × Nat
  | 0, z, n => (z, n)
  | k + 1, z, n => if zp z p 3 = 1 ∧ zp z p 4 / 10 = c then zPf m p c k (zPlay z m c 0).1 (n + 1) else (z, n)
theorem zPf_s {m p k n : Nat} {c : Int32} {z : Nat → Int32} : zPf m p c (k + 1) z n = if zp z p 3 = 1 ∧ zp z p 4 / 10 = c then zPf m p c k (zPlay z m c 0).1 (n + 1) else (z, n) := rfl
theorem zFl_lo {m j : Nat} (h : j < 16) : ∀ {k : Nat} {z : Nat → Int32} {n : Nat}, (zFl m k z n).1 j = z j
  | 0, z, n => rfl
  | k + 1, z, n => by
    rw [zFl_s]
    split
    · exact (zFl_lo h).trans (zPut_lo h)
    · rfl
theorem zFill_15 {z : Nat → Int32} {m : Nat} : zFill z m 15 = z 15 := by
  unfold zFill
  split
  · exact zFl_lo (by decide)
  · rw [zBook_lo (by decide), pk_un (by decide)]; exact zFl_lo (by decide)
theorem zFill_lo {z : Nat → Int32} {m j : Nat} (h : j < 14) : zFill z m j = z j := by
  unfold zFill
  split
  · exact zFl_lo (by omega)
  · rw [zBook_lo (by omega), pk_un (by omega)]; exact zFl_lo (by omega)
theorem zPd_15 {z : Nat → Int32} : zPd z 15 = z 15 := by
  unfold zPd zP4
  rw [pk_un (by decide), pk_un (by decide), pk_un (by decide), pk_un (by decide), pk_un (by decide)]
theorem zPlay_15 {z : Nat → Int32} {m : Nat} {c a : Int32} : (zPlay z m c a).1 15 = z 15 := by
  unfold zPlay
  split
  · show zFill _ m 15 = _
    rw [zFill_15, zBook_lo (by decide), zPd_15]
  · split
    · show zFill _ m 15 = _
      rw [zFill_15]
      unfold zLose zRoll
      split
      · rw [zPut_lo (by decide), pk_un (by decide), zBook_lo (by decide), zGr_lo (by decide), zPd_15]
      · rw [pk_un (by decide), zBook_lo (by decide), zGr_lo (by decide), zPd_15]
    · show zFill _ m 15 = _
      rw [zFill_15]
      unfold zWin zTake
      rw [pk_un (by decide), pk_un (by decide), pk_un (by decide), zset_lo (by decide), zset_lo (by decide), zBook_lo (by decide), zGr_lo (by decide), zPd_15]
def zCo (z : Nat → Int32) (m : Nat) (c : Int32) : Int32 := if zp (zPf m (zTop z m c).toNatClampNeg c 300 z 0).1 (zTop z m c).toNatClampNeg 3 = 2 then nI (zPf m (zTop z m c).toNatClampNeg c 300 z 0).2 * z 0 else -6
theorem zPf_le {m p : Nat} {c : Int32} : ∀ {k n : Nat} {z : Nat → Int32}, (zPf m p c k z n).2 ≤ n + k
  | 0, n, z => Nat.le_refl _
  | k + 1, n, z => by
    rw [zPf_s]
    split
    · have := zPf_le (m := m) (p := p) (c := c) (k := k) (n := n + 1) (z := (zPlay z m c 0).1)
      omega
    · dsimp only; omega
theorem col_of {c : Int32} (h : 0 ≤ c ∧ c ≤ 7) : ∃ j, j < 8 ∧ c = nI j := by
  obtain ⟨j, hj, e⟩ := nI_of3 (n := 7) (by decide) h.1 h.2
  exact ⟨j, by omega, e⟩
section M8
variable {G : Gx} {d : Nat} {w : Wd} {z spare past slots sv pd told : Nat → Int32} {st ty sp tm : Int32} {Q : Option Value → Wd → Prop} {m : Nat}
end M8

/-! the reference: counts, what if -/
section M9
variable {G : Gx} {d : Nat} {w : Wd} {z spare past slots sv pd told : Nat → Int32} {st ty sp tm : Int32} {Q : Option Value → Wd → Prop} {m : Nat}
def zCount (z : Nat → Int32) (m : Nat) (ty st v : Int32) : Int32 :=
  if 0 ≤ v ∧ v ≤ 7 then z (6 + v.toNatClampNeg) else if v = 8 then zSet z 0 m else if v = 9 then zSet z 1 m else if v = 10 then zEm z m 8 else if v = 11 then z 14 else if 12 ≤ v ∧ v ≤ 17 then z (v.toNatClampNeg - 12) else if v = 18 then ty else if v = 19 then st else -2
theorem zIf_10 {z : Nat → Int32} {m : Nat} {c a : Int32} (h24 : m ≤ 24) (h : ¬ zIf z m c a < 10) : ∃ p, p < m ∧ zIf z m c a = 10 + nI p := by
  unfold zIf at h ⊢
  by_cases ht : zTop z m c = -6
  · rw [if_pos ht] at h; exact absurd (by decide) h
  · rw [if_neg ht] at h ⊢
    split at h
    · split at h
      · exact absurd (by decide) h
      · exact absurd (by decide) h
    · next hw =>
      rw [if_neg hw]
      obtain ⟨p, hp, et⟩ := (zTop_cases z m c).resolve_left ht
      exact ⟨p, hp, by rw [et]⟩
end M9

/-! the reference: texts -/
def see (pd : Nat → Int32) (t s : Nat) (lo hi : Int32) : Prop := s < t ∧ lo ≤ pd s ∧ pd s ≤ hi
theorem seeD (pd : Nat → Int32) (t s : Nat) (lo hi : Int32) : see pd t s lo hi ∨ ¬ see pd t s lo hi := Classical.em _
def tkS (pd : Nat → Int32) (t s : Nat) (c : Int32) : Nat := if s < t ∧ c ≤ pd s ∧ pd s ≤ c then s + 1 else s
def nNum (pd : Nat → Int32) (t s : Nat) (dg : Int32) : Int32 × Nat :=
  if s < t ∧ 48 ≤ pd s ∧ pd s ≤ 57 then
    (if 0 < pd s - 48 ∧ 1 < dg ∧ s + 1 < t ∧ 48 ≤ pd (s + 1) ∧ pd (s + 1) ≤ 57 then (10 * (pd s - 48) + pd (s + 1) - 48, s + 2) else (pd s - 48, s + 1))
  else (-6, s)
def nKd (pd : Nat → Int32) (t s : Nat) : Int32 × Nat :=
  if s < t ∧ 112 ≤ pd s ∧ pd s ≤ 112 then (0, s + 1) else if s < t ∧ 98 ≤ pd s ∧ pd s ≤ 98 then (1, s + 1) else if s < t ∧ 120 ≤ pd s ∧ pd s ≤ 120 then (2, s + 1) else (-6, s)
theorem nNum_le {pd : Nat → Int32} {t s : Nat} {dg : Int32} (h : s ≤ t) : s ≤ (nNum pd t s dg).2 ∧ (nNum pd t s dg).2 ≤ t := by
  unfold nNum
  split
  · split
    · dsimp only; omega
    · dsimp only; omega
  · exact ⟨Nat.le_refl _, h⟩
theorem nKd_le {pd : Nat → Int32} {t s : Nat} (h : s ≤ t) : s ≤ (nKd pd t s).2 ∧ (nKd pd t s).2 ≤ t := by
  unfold nKd
  split
  · dsimp only; omega
  · split
    · dsimp only; omega
    · split
      · dsimp only; omega
      · exact ⟨Nat.le_refl _, h⟩
theorem tkS_le {pd : Nat → Int32} {t s : Nat} {c : Int32} (h : s ≤ t) : s ≤ tkS pd t s c ∧ tkS pd t s c ≤ t := by
  unfold tkS
  split <;> omega
section M10
variable {G : Gx} {d : Nat} {w : Wd} {z spare past slots sv pd told : Nat → Int32} {st ty sp tm : Int32} {Q : Option Value → Wd → Prop} {m t s : Nat}
end M10

/-! the reference: orders -/
def oL (pd : Nat → Int32) (t s : Nat) : Int32 := if s < t then pd s else 0
def gdL (l : Int32) : Prop := l = 99 ∨ l = 112 ∨ l = 110 ∨ l = 97
def oF (pd : Nat → Int32) (t s : Nat) : Int32 × Nat := if oL pd t s = 110 then nKd pd t (s + 1) else nNum pd t (s + 1) (if oL pd t s = 99 then 2 else 1)
def oS (pd : Nat → Int32) (t s : Nat) : Int32 × Nat :=
  if (oF pd t s).1 ≠ -6 ∧ oL pd t s = 112 ∧ ((oF pd t s).2 < t ∧ 47 ≤ pd (oF pd t s).2 ∧ pd (oF pd t s).2 ≤ 47) then nNum pd t ((oF pd t s).2 + 1) 1
  else if (oF pd t s).1 ≠ -6 ∧ oL pd t s = 110 then nNum pd t (oF pd t s).2 2 else (0, (oF pd t s).2)
def oT (pd : Nat → Int32) (t s : Nat) : Int32 × Nat :=
  if (oF pd t s).1 ≠ -6 ∧ oL pd t s = 110 then (if (oS pd t s).1 ≠ -6 ∧ ((oS pd t s).2 < t ∧ 61 ≤ pd (oS pd t s).2 ∧ pd (oS pd t s).2 ≤ 61) then nNum pd t ((oS pd t s).2 + 1) 2 else (-6, (oS pd t s).2)) else (0, (oS pd t s).2)
def oTd (pd told : Nat → Int32) (t s n : Nat) : Nat → Int32 := upd (upd (upd (upd told (4 * n) (oL pd t s)) (4 * n + 1) (oF pd t s).1) (4 * n + 2) (oS pd t s).1) (4 * n + 3) (oT pd t s).1
theorem oL_lt {pd : Nat → Int32} {t s : Nat} (h : gdL (oL pd t s)) : s < t := by
  rcases Nat.lt_or_ge s t with q | q
  · exact q
  · have e : oL pd t s = 0 := if_neg (by omega)
    rw [e] at h
    exact absurd h (by unfold gdL; decide)
section M11
variable {G : Gx} {d : Nat} {w : Wd} {z spare past slots sv pd told : Nat → Int32} {st ty sp tm : Int32} {Q : Option Value → Wd → Prop} {m t s n : Nat}
end M11

/-! the reference: the pad read, carried out, filled -/
def rd1 (pd : Nat → Int32) (t s : Nat) (told : Nat → Int32) (n : Nat) : Bool × Nat × (Nat → Int32) × Nat :=
  if oL pd t s = 99 ∨ oL pd t s = 112 ∨ oL pd t s = 110 ∨ oL pd t s = 97 then (decide ((oF pd t s).1 ≠ -6 ∧ (oS pd t s).1 ≠ -6 ∧ (oT pd t s).1 ≠ -6), (oT pd t s).2, oTd pd told t s n, n + 1) else (false, s, told, n)
def rpL (pd : Nat → Int32) (t : Nat) : Nat → Bool × Nat × (Nat → Int32) × Nat → Bool × Nat × (Nat → Int32) × Nat
  | 0, x => x
  | k + 1, x => if x.1 = true ∧ x.2.1 < t then (if x.2.1 < t ∧ 59 ≤ pd x.2.1 ∧ pd x.2.1 ≤ 59 then rpL pd t k (rd1 pd t (x.2.1 + 1) x.2.2.1 x.2.2.2) else (false, x.2)) else x
theorem rpL_s {pd : Nat → Int32} {t k : Nat} {x : Bool × Nat × (Nat → Int32) × Nat} : rpL pd t (k + 1) x = if x.1 = true ∧ x.2.1 < t then (if x.2.1 < t ∧ 59 ≤ pd x.2.1 ∧ pd x.2.1 ≤ 59 then rpL pd t k (rd1 pd t (x.2.1 + 1) x.2.2.1 x.2.2.2) else (false, x.2)) else x := rfl
def rp (pd : Nat → Int32) (t : Nat) (told : Nat → Int32) : Bool × Nat × (Nat → Int32) × Nat := rpL pd t (t + 1) (rd1 pd t 0 told 0)
theorem oF_le {pd : Nat → Int32} {t s : Nat} (h : s < t) : s + 1 ≤ (oF pd t s).2 ∧ (oF pd t s).2 ≤ t := by
  unfold oF
  split
  · exact nKd_le h
  · exact nNum_le h
theorem oS_le {pd : Nat → Int32} {t s : Nat} (h : s < t) : s + 1 ≤ (oS pd t s).2 ∧ (oS pd t s).2 ≤ t := by
  have hF := oF_le (pd := pd) h
  unfold oS
  split
  · next h2 => have := nNum_le (pd := pd) (t := t) (s := (oF pd t s).2 + 1) (dg := 1) (by omega); omega
  · split
    · have := nNum_le (pd := pd) (t := t) (s := (oF pd t s).2) (dg := 2) (by omega); omega
    · exact hF
theorem oT_le {pd : Nat → Int32} {t s : Nat} (h : s < t) : s + 1 ≤ (oT pd t s).2 ∧ (oT pd t s).2 ≤ t := by
  have hF := oS_le (pd := pd) h
  unfold oT
  split
  · split
    · next h2 => have := nNum_le (pd := pd) (t := t) (s := (oS pd t s).2 + 1) (dg := 2) (by omega); omega
    · exact hF
  · exact hF
theorem rd1_le {pd told : Nat → Int32} {t s n : Nat} (h : s ≤ t) (hn : 2 * n ≤ s) : s ≤ (rd1 pd t s told n).2.1 ∧ (rd1 pd t s told n).2.1 ≤ t ∧ 2 * (rd1 pd t s told n).2.2.2 ≤ (rd1 pd t s told n).2.1 + 1 := by
  unfold rd1
  split
  · next hg =>
    have := oT_le (pd := pd) (oL_lt hg)
    dsimp only
    omega
  · dsimp only; omega
section M12
variable {G : Gx} {d : Nat} {w : Wd} {z spare past slots sv pd told : Nat → Int32} {st ty sp tm : Int32} {Q : Option Value → Wd → Prop} {m t s n : Nat}
def byt (x : Int64) : Int32 := (x &&& 255).toInt32
def sh8 (x : Int64) : Int64 := (x.toUInt64 >>> ((8 : Int32).toInt64.toUInt64 &&& Int64.toUInt64 63)).toInt64
def pcN : Nat → Int64 → Nat → Option Nat
  | 0, _, n => some n
  | k + 1, l, n => if l = 0 then some n else if 33 ≤ byt l ∧ byt l ≤ 126 then pcN k (sh8 l) (n + 1) else none
theorem pcN_s {k n : Nat} {l : Int64} : pcN (k + 1) l n = if l = 0 then some n else if 33 ≤ byt l ∧ byt l ≤ 126 then pcN k (sh8 l) (n + 1) else none := rfl
theorem pcN_le : ∀ {k n : Nat} {l : Int64} {r : Nat}, pcN k l n = some r → n ≤ r ∧ r ≤ n + k
  | 0, n, l, r, h => by cases h; omega
  | k + 1, n, l, r, h => by
    rw [pcN_s] at h
    split at h
    · cases h; omega
    · split at h
      · have := pcN_le h; omega
      · cases h
def chA (x : Int64) (k : Nat) : Int32 := ((x.toUInt64 >>> ((nI (8 * k)).toInt64.toUInt64 &&& Int64.toUInt64 63)).toInt64 &&& 255).toInt32
def ptS (pd : Nat → Int32) (t n : Nat) (x : Int64) : Nat → Nat → Int32
  | 0 => pd
  | i + 1 => upd (ptS pd t n x i) (t + i) (chA x (n - 1 - i))
end M12

/-! the reference: orders carried out; a new one -/
def okC (z : Nat → Int32) (v : Int32) : Prop := (1 ≤ v ∧ v ≤ 99) ∧ ¬ 999 < z 6 + v
def okY (z : Nat → Int32) (c a : Int32) : Prop := (0 ≤ c ∧ c ≤ 7) ∧ (0 ≤ a ∧ a ≤ 4) ∧ ¬ z 6 < z 0
def okP (m : Nat) (k g v : Int32) : Prop := pOk k g v ∧ m ≠ 24
def okA (z : Nat → Int32) (m : Nat) (c : Int32) : Prop := (0 ≤ c ∧ c ≤ 7) ∧ zNx z m m 0 < m ∧ zCnt z c m ≠ 4
def oOk (told z : Nat → Int32) (m i : Nat) : Prop := (told (4 * i) = 99 ∧ okC z (told (4 * i + 1))) ∨ (told (4 * i) = 110 ∧ okP m (told (4 * i + 1)) (told (4 * i + 2)) (told (4 * i + 3))) ∨ (told (4 * i) = 112 ∧ okY z (told (4 * i + 1)) (told (4 * i + 2))) ∨ ((told (4 * i) ≠ 99 ∧ told (4 * i) ≠ 110 ∧ told (4 * i) ≠ 112) ∧ okA z m (told (4 * i + 1)))
def oDo (told z : Nat → Int32) (m i : Nat) : (Nat → Int32) × Nat := if told (4 * i) = 99 then (upd z 6 (z 6 + told (4 * i + 1)), m) else if told (4 * i) = 110 then (zPrz z m (told (4 * i + 1)) (told (4 * i + 2)) (told (4 * i + 3)), m + 1) else if told (4 * i) = 112 then ((zPlay z m (told (4 * i + 1)) (told (4 * i + 2))).1, m) else (zPut z m (zNx z m m 0) (told (4 * i + 1)), m)
theorem zWC_0 {z : Nat → Int32} {v x : Int32} (h : zWC z v x) : x = 0 ↔ okC z v := by
  rcases h with ⟨a, rfl⟩ | ⟨a, b, rfl⟩ | ⟨a, b, rfl⟩
  · exact ⟨fun q => absurd q (by decide), fun q => absurd q.1 a⟩
  · exact ⟨fun q => absurd q (by decide), fun q => absurd b q.2⟩
  · exact ⟨fun _ => ⟨a, b⟩, fun _ => rfl⟩
theorem zWP_0 {m : Nat} {k g v x : Int32} (h : zWP m k g v x) : x = 0 ↔ okP m k g v := by
  rcases h with ⟨a, rfl⟩ | ⟨a, b, rfl⟩ | ⟨a, b, rfl⟩
  · exact ⟨fun q => absurd q (by decide), fun q => absurd q.1 a⟩
  · exact ⟨fun q => absurd q (by decide), fun q => absurd b q.2⟩
  · exact ⟨fun _ => ⟨a, b⟩, fun _ => rfl⟩
theorem zWY_0 {z : Nat → Int32} {c a x : Int32} (h : zWY z c a x) : x = 0 ↔ okY z c a := by
  rcases h with ⟨q1, rfl⟩ | ⟨q1, q2, rfl⟩ | ⟨q1, q2, q3, rfl⟩ | ⟨q1, q2, q3, rfl⟩
  · exact ⟨fun q => absurd q (by decide), fun q => absurd q.1 q1⟩
  · exact ⟨fun q => absurd q (by decide), fun q => absurd q.2.1 q2⟩
  · exact ⟨fun q => absurd q (by decide), fun q => absurd q3 q.2.2⟩
  · exact ⟨fun _ => ⟨q1, q2, q3⟩, fun _ => rfl⟩
theorem zWA_0 {z : Nat → Int32} {m : Nat} {c x : Int32} (h : zWA z m c x) : x = 0 ↔ okA z m c := by
  rcases h with ⟨q1, rfl⟩ | ⟨q1, q2, rfl⟩ | ⟨q1, q2, q3, rfl⟩ | ⟨q1, q2, q3, rfl⟩
  · exact ⟨fun q => absurd q (by decide), fun q => absurd q.1 q1⟩
  · exact ⟨fun q => absurd q (by decide), fun q => absurd q.2.1 q2⟩
  · exact ⟨fun q => absurd q (by decide), fun q => absurd q3 q.2.2⟩
  · exact ⟨fun _ => ⟨q1, q2, q3⟩, fun _ => rfl⟩
theorem oDo_15 {told z : Nat → Int32} {m i : Nat} (h : z 15 = nI m) : (oDo told z m i).1 15 = nI (oDo told z m i).2 := by
  unfold oDo
  split
  · show upd z 6 (z 6 + told (4 * i + 1)) 15 = nI m
    exact (pk_un (by decide)).trans h
  · split
    · show zPrz z m (told (4 * i + 1)) (told (4 * i + 2)) (told (4 * i + 3)) 15 = nI (m + 1)
      exact pk_us
    · split
      · exact zPlay_15.trans h
      · exact (zPut_lo (by decide)).trans h
theorem oDo_24 {told z : Nat → Int32} {m i : Nat} (h : m ≤ 24) (ho : oOk told z m i) : (oDo told z m i).2 ≤ 24 := by
  unfold oDo
  split
  · exact h
  · next h1 =>
    split
    · next h2 =>
      rcases ho with q | q | q | q
      · exact absurd q.1 h1
      · have := q.2.2
        show m + 1 ≤ 24
        omega
      · exact absurd (h2.symm.trans q.1) (by decide)
      · exact absurd h2 q.1.2.1
    · split
      · exact h
      · exact h
section M13
variable {G : Gx} {d : Nat} {w : Wd} {z spare past slots sv pd told : Nat → Int32} {st ty sp tm : Int32} {Q : Option Value → Wd → Prop} {m t s n : Nat}
theorem oOkD (told z : Nat → Int32) (m i : Nat) : oOk told z m i ∨ ¬ oOk told z m i := Classical.em _
/-- i orders were carried out, from z with m prizes to z2 with m2 -/
def cSt (told z : Nat → Int32) (m : Nat) : Nat → (Nat → Int32) × Nat
  | 0 => (z, m)
  | i + 1 => oDo told (cSt told z m i).1 (cSt told z m i).2 i
end M13

/-! the reference: a new one -/
theorem ak_i : akd .int = 0 := rfl
theorem ak_z : akd .boolean = 1 := rfl
theorem ak_c : akd .char = 2 := rfl
theorem tn_201 : (201 : Int32).toNatClampNeg = 201 := by decide
theorem nl_201 : ((201 : Int32) < 0) = False := eq_false (by decide)
theorem tn_1206 : (1206 : Int32).toNatClampNeg = 1206 := by decide
theorem nl_1206 : ((1206 : Int32) < 0) = False := eq_false (by decide)
theorem tn_402 : (402 : Int32).toNatClampNeg = 402 := by decide
theorem nl_402 : ((402 : Int32) < 0) = False := eq_false (by decide)
theorem nl_2 : ((2 : Int32) < 0) = False := eq_false (by decide)
theorem tn_80 : (80 : Int32).toNatClampNeg = 80 := by decide
theorem nl_80 : ((80 : Int32) < 0) = False := eq_false (by decide)
theorem nl_164 : ((164 : Int32) < 0) = False := eq_false (by decide)
theorem tn_24 : (24 : Int32).toNatClampNeg = 24 := by decide
theorem nl_24 : ((24 : Int32) < 0) = False := eq_false (by decide)
theorem nl_6 : ((6 : Int32) < 0) = False := eq_false (by decide)
theorem tn_32 : (32 : Int32).toNatClampNeg = 32 := by decide
theorem nl_32 : ((32 : Int32) < 0) = False := eq_false (by decide)
theorem nl_8 : ((8 : Int32) < 0) = False := eq_false (by decide)
theorem tn_40 : (40 : Int32).toNatClampNeg = 40 := by decide
theorem nl_40 : ((40 : Int32) < 0) = False := eq_false (by decide)
theorem nl_7 : ((7 : Int32) < 0) = False := eq_false (by decide)
def z0 : Nat → Int32 := upd (upd (upd (upd (upd (upd (fun _ => 0) 0 2) 1 20) 2 12) 3 45) 4 3) 5 2
section M14
variable {G : Gx} {d : Nat} {w : Wd} {Q : Option Value → Wd → Prop}
end M14
