/-! what a play does, told in numbers -/
def bk (y : Yy) (t i j : Nat) : Int32 := y 12 (4 * ((t + 10 - i) % 10) + j)
theorem bk_0 {y : Yy} {t s : Nat} {a b c e : Int32} : bk (yBook y t s a b c e) ((t + 1) % 10) 0 0 = a ∧ bk (yBook y t s a b c e) ((t + 1) % 10) 0 1 = b ∧ bk (yBook y t s a b c e) ((t + 1) % 10) 0 2 = c ∧ bk (yBook y t s a b c e) ((t + 1) % 10) 0 3 = e := by
  obtain ⟨p0, p1, p2, p3, -⟩ := up4 (f := y 12) (T := (t + 1) % 10) (a := a) (b := b) (c := c) (e := e)
  have h : ((t + 1) % 10 + 10 - 0) % 10 = (t + 1) % 10 := by omega
  unfold bk
  rw [h]
  exact ⟨p0, p1, p2, p3⟩
theorem bk_1 {y : Yy} {t s j : Nat} {a b c e : Int32} (ht : t < 10) (hj : j < 4) : bk (yBook y t s a b c e) ((t + 1) % 10) 1 j = bk y t 0 j := by
  obtain ⟨-, -, -, -, p4⟩ := up4 (f := y 12) (T := (t + 1) % 10) (a := a) (b := b) (c := c) (e := e)
  have h : ((t + 1) % 10 + 10 - 1) % 10 = t := by omega
  have h2 : (t + 10 - 0) % 10 = t := by omega
  unfold bk
  rw [h, h2]
  exact p4 _ (by omega)
/-- what is told of a play -/
def PO (y y' : Yy) (t' s' f : Nat) (d2 what : Int32) (c : Nat) (E : Int32) : Prop :=
  (y' 0 0 = y 0 0 - y 1 0 ∧ y' 0 1 = d2 ∧ y' 0 2 = y 0 2 + y 1 0 ∧ y' 0 3 = y 0 3 + 1 ∧ y' 0 6 = y 0 6 + nI f) ∧ (f = 0 ∨ f = 1) ∧ f < s' ∧ (f = 0 → bk y' t' 0 0 ≠ 3) ∧ (f = 1 → bk y' t' 0 0 = 3) ∧ bk y' t' f 0 = what ∧ bk y' t' f 1 = nI c ∧ bk y' t' f 3 = E ∧ (f = 1 → bk y' t' 0 1 = -6 ∧ 0 < bk y' t' 0 2 ∧ bk y' t' 0 3 = 0)
theorem AK.bk {y : Yy} {m d cr du pa pl fp sl t s : Nat} {a b c e : Int32} (A : AK y m d cr du pa pl fp sl) : AK (yBook y t s a b c e) m d cr du pa pl fp sl :=
  A.cg (fun j _ => by rw [yBook_n (by decide)]) (fun i _ => by rw [yBook_n (by decide)]) (fun i _ => by rw [yBook_n (by decide)])
theorem yFl_0 {m : Nat} : ∀ (k : Nat) (x : Xf) (n : Nat), (yFl m k x n).1.1 0 = x.1 0 ∧ (yFl m k x n).1.1 1 = x.1 1
  | 0, _, _ => ⟨rfl, rfl⟩
  | k + 1, x, n => by
    unfold yFl
    split
    · obtain ⟨e0, e1⟩ := yFl_0 (m := m) k (fS x) (n + 1)
      have f0 : (fS x).1 0 = x.1 0 := yLay_n (by decide) (by decide)
      have f1 : (fS x).1 1 = x.1 1 := yLay_n (by decide) (by decide)
      exact ⟨e0.trans f0, e1.trans f1⟩
    · exact ⟨rfl, rfl⟩
theorem yFl_A {m d cr du pa pl fp sl : Nat} : ∀ (k : Nat) (x : Xf) (n : Nat), (∀ p, x.2.2 ≤ p → p < m → x.1 6 p = 0) → AK x.1 m d cr du pa pl fp sl → AK (yFl m k x n).1.1 m d cr du pa pl fp sl
  | 0, _, _, _, A => A
  | k + 1, x, n, hs, A => by
    unfold yFl
    split
    · rename_i h
      have f0 : (fS x).1 0 = x.1 0 := yLay_n (by decide) (by decide)
      have f7 : (fS x).1 7 = x.1 7 := yLay_n (by decide) (by decide)
      have f6 : (fS x).1 6 = upd (x.1 6) x.2.2 1 := yLay_n (by decide) (by decide)
      refine yFl_A k (fS x) (n + 1) (fun p hp hp2 => ?_) (A.mv (fun j _ => by rw [f0]) (fun i hi => ?_) (fun i _ => by rw [f7]))
      · have hp' : x.2.2 + 1 ≤ p := hp
        rw [f6, pk_un (by omega)]
        exact hs p (by omega) hp2
      · rw [f6]
        by_cases e : i = x.2.2
        · rw [e, pk_us, hs _ (Nat.le_refl _) h.1]
          exact Or.inr ⟨rfl, by decide⟩
        · rw [pk_un e]
          exact Or.inl rfl
    · exact A
theorem yFill_A {m k t s d cr du pa pl fp sl : Nat} {x : Xf} (hs : ∀ p, x.2.2 ≤ p → p < m → x.1 6 p = 0) (A : AK x.1 m d cr du pa pl fp sl) : AK (yFill m k t s x) m d cr du pa pl fp sl := by
  have A1 := yFl_A (m := m) k x 0 hs A
  unfold yFill
  generalize yFl m k x 0 = r at A1 ⊢
  split
  · exact A1
  · refine A1.cg (fun j hj => ?_) (fun i _ => by rw [yBook_n (by decide)]; rfl) (fun i _ => by rw [yBook_n (by decide)]; rfl)
    rw [yBook_n (by decide)]
    have k6 : j = 0 ∨ j = 1 ∨ j = 2 ∨ j = 3 ∨ j = 4 ∨ j = 5 := by omega
    rcases k6 with rfl | rfl | rfl | rfl | rfl | rfl <;> rfl
/-- what was told stays, filling up tells one more row -/
theorem yFill_PO {y YA : Yy} {m k l t s c : Nat} {h : Nat → Nat} {d2 what pz E : Int32} (hk : k ≤ 8) (ht : t < 10) (hs : s ≤ 10) (hw : what ≠ 3) (e0 : YA 0 0 = y 0 0 - y 1 0 ∧ YA 0 1 = d2 ∧ YA 0 2 = y 0 2 + y 1 0 ∧ YA 0 3 = y 0 3 + 1 ∧ YA 0 6 = y 0 6) :
    ∃ t' s' f, t' < 10 ∧ s' ≤ 10 ∧ yFill m k ((t + 1) % 10) (nS s) (yBook YA t s what (nI c) pz E, (h, l)) 11 1 = nI t' ∧ yFill m k ((t + 1) % 10) (nS s) (yBook YA t s what (nI c) pz E, (h, l)) 11 0 = nI s' ∧ PO y (yFill m k ((t + 1) % 10) (nS s) (yBook YA t s what (nI c) pz E, (h, l))) t' s' f d2 what c E ∧ yFill m k ((t + 1) % 10) (nS s) (yBook YA t s what (nI c) pz E, (h, l)) 1 = YA 1 := by
  obtain ⟨a0, a1, a2, a3, a6⟩ := e0
  obtain ⟨g0, g1⟩ := yFl_0 (m := m) k (yBook YA t s what (nI c) pz E, (h, l)) 0
  have g11 := yFl_11 (m := m) k (yBook YA t s what (nI c) pz E, (h, l)) 0
  have g12 := yFl_12 (m := m) k (yBook YA t s what (nI c) pz E, (h, l)) 0
  have gl := yFl_le (m := m) k (yBook YA t s what (nI c) pz E, (h, l)) 0
  obtain ⟨b0, b1, b2, b3⟩ := bk_0 (y := YA) (t := t) (s := s) (a := what) (b := nI c) (c := pz) (e := E)
  have n0 : yBook YA t s what (nI c) pz E 0 = YA 0 := yBook_n (by decide)
  have n1 : yBook YA t s what (nI c) pz E 1 = YA 1 := yBook_n (by decide)
  have n11 : yBook YA t s what (nI c) pz E 11 1 = nI ((t + 1) % 10) ∧ yBook YA t s what (nI c) pz E 11 0 = nI (nS s) := yBook_11
  have s1 : nS s ≤ 10 := nS_le
  have s0 : 0 < nS s := by
    unfold nS
    split <;> omega
  have t1 : (t + 1) % 10 < 10 := Nat.mod_lt _ (by decide)
  dsimp only at g0 g1 g11 g12
  generalize hY : yBook YA t s what (nI c) pz E = Y at *
  rw [n0] at g0
  rw [n1] at g1
  unfold yFill
  generalize yFl m k (Y, (h, l)) 0 = r at g0 g1 g11 g12 gl ⊢
  generalize nS s = S at *
  generalize (t + 1) % 10 = T at *
  by_cases q : r.2 = 0
  · rw [if_pos q]
    have kb : ∀ i j, bk r.1.1 T i j = bk Y T i j := fun i j => by
      unfold bk
      rw [g12]
    refine ⟨T, S, 0, t1, s1, by rw [g11]; exact n11.1, by rw [g11]; exact n11.2, ⟨⟨?_, ?_, ?_, ?_, ?_⟩, Or.inl rfl, s0, fun _ => ?_, fun z => absurd z (by decide), ?_, ?_, ?_, fun z => absurd z (by decide)⟩, g1⟩
    · rw [g0]; exact a0
    · rw [g0]; exact a1
    · rw [g0]; exact a2
    · rw [g0]; exact a3
    · rw [g0, nI_0, Int32.add_zero]; exact a6
    · rw [kb, b0]; exact hw
    · rw [kb]; exact b0
    · rw [kb]; exact b1
    · rw [kb]; exact b3
  · rw [if_neg q]
    generalize hF : yu r.1.1 0 (fl [r.1.1 0 0, r.1.1 0 1, r.1.1 0 2, r.1.1 0 3, r.1.1 0 4, r.1.1 0 5, r.1.1 0 6 + 1]) = F
    have f0 : F 0 = fl [r.1.1 0 0, r.1.1 0 1, r.1.1 0 2, r.1.1 0 3, r.1.1 0 4, r.1.1 0 5, r.1.1 0 6 + 1] := by rw [← hF]; rfl
    have f1 : F 1 = r.1.1 1 := by rw [← hF]; rfl
    have f12 : F 12 = r.1.1 12 := by rw [← hF]; rfl
    have kb : ∀ i j, bk F T i j = bk Y T i j := fun i j => by
      unfold bk
      rw [f12, g12]
    obtain ⟨c0, c1, c2, c3⟩ := bk_0 (y := F) (t := T) (s := S) (a := 3) (b := -6) (c := nI r.2) (e := 0)
    have m0 : yBook F T S 3 (-6) (nI r.2) 0 0 = F 0 := yBook_n (by decide)
    have m1 : yBook F T S 3 (-6) (nI r.2) 0 1 = F 1 := yBook_n (by decide)
    have m11 := yBook_11 (y := F) (t := T) (s := S) (a := 3) (b := -6) (e := nI r.2) (f := 0)
    have S1 : 1 < nS S := by
      unfold nS
      split <;> omega
    refine ⟨(T + 1) % 10, nS S, 1, Nat.mod_lt _ (by decide), nS_le, m11.1, m11.2, ⟨⟨?_, ?_, ?_, ?_, ?_⟩, Or.inr rfl, S1, fun z => absurd z (by decide), fun _ => c0, ?_, ?_, ?_, fun _ => ⟨c1, ?_, c3⟩⟩, ?_⟩
    · rw [m0, f0]; exact (congrFun g0 0).trans a0
    · rw [m0, f0]; exact (congrFun g0 1).trans a1
    · rw [m0, f0]; exact (congrFun g0 2).trans a2
    · rw [m0, f0]; exact (congrFun g0 3).trans a3
    · rw [m0, f0]
      show r.1.1 0 6 + 1 = _
      rw [congrFun g0 6, a6]
      rfl
    · rw [bk_1 t1 (by decide), kb]; exact b0
    · rw [bk_1 t1 (by decide), kb]; exact b1
    · rw [bk_1 t1 (by decide), kb]; exact b3
    · rw [c2]
      exact nI_lt (a := 0) (by omega) (by omega)
    · rw [m1, f1]; exact g1
section A2
variable {z : Zz} {y : Yy} {b m l c t s cr du pa pl fp sl a q n : Nat} {h : Nat → Nat} {cl : Nat → Nat → Nat}
theorem RR.st0 (H : RR b z y m l t s h cl) : ∀ p, l ≤ p → p < m → y 6 p = 0 := fun p h1 h2 => by
  have k := H.1.1.2.2.1 p h2
  exact k.1.2.2.2.1.trans (k.2.2.2.2.mpr h1)
theorem RR.top1 (H : RR b z y m l t s h cl) (hc : c < 8) (h0 : ¬ h c = 0) : cl c (h c - 1) < m ∧ y 6 (cl c (h c - 1)) = 1 := by
  obtain ⟨-, p2, p3, -⟩ := H.1.1.2.2.2.2.1 c hc (h c - 1) (by omega)
  exact ⟨p2, (H.1.1.2.2.1 _ p2).1.2.2.2.1.trans p3⟩
/-- a play: the relation, the numbers, what is told -/
theorem PL (H : RR b z y m l t s h cl) (A : AK y m 0 cr du pa pl fp sl) (hpl : pl < 1000) (hn : pl ≤ n) (hq : y 1 5 = nI q) (hq8 : q ≤ 8) (ha : y 1 0 = nI a) (a1 : 1 ≤ a) (a9 : a ≤ 9) (hcr : a ≤ cr) (hc : c < 8) (aim : Int32) :
    ∃ z' l' t' s' h' cl' f, RR (b + 9) z' (yPull y m l t s h cl q c aim) m l' t' s' h' cl' ∧ AC (n + 1) (yPull y m l t s h cl q c aim) m ∧ PO y (yPull y m l t s h cl q c aim) t' s' f (if 10 ≤ yOut y h cl c aim then 0 else y 0 1 + y 1 0) (if h c = 0 then 0 else if yOut y h cl c aim < 10 then 1 else 2) c (yE1 y) := by
  have hz5 : z 5 = nI q := (H.1.2.1.2 5 (by decide)).symm.trans hq
  obtain ⟨l', t', s', h', cl', R', -, -⟩ := H.play hz5 hq8 hc aim
  obtain ⟨e, Ap, gp, wp⟩ := A.pay ha a1 a9 hcr hpl
  obtain ⟨⟨kt, kt2, ks, ks2⟩, -⟩ := H.2
  -- what is left: the numbers and what is told, for each way that a play goes
  have key : ∃ T S f, T < 10 ∧ S ≤ 10 ∧ yPull y m l t s h cl q c aim 11 1 = nI T ∧ yPull y m l t s h cl q c aim 11 0 = nI S ∧ PO y (yPull y m l t s h cl q c aim) T S f (if 10 ≤ yOut y h cl c aim then 0 else y 0 1 + y 1 0) (if h c = 0 then 0 else if yOut y h cl c aim < 10 then 1 else 2) c (yE1 y) ∧ AC (n + 1) (yPull y m l t s h cl q c aim) m := by
    by_cases h0 : h c = 0
    · have eo : yOut y h cl c aim = 0 := if_pos h0
      rw [eo, if_pos h0, if_neg (by decide), show yPull y m l t s h cl q c aim = yFill m (q - hSum h 8) ((t + 1) % 10) (nS s) (yBook (yPay y (yE1 y)) t s 0 (nI c) (-6) (yE1 y), (h, l)) from if_pos h0]
      obtain ⟨T, S, f, k1, k2, k3, k4, k5, -⟩ := yFill_PO (y := y) (YA := yPay y (yE1 y)) (m := m) (k := q - hSum h 8) (l := l) (t := t) (s := s) (c := c) (h := h) (d2 := y 0 1 + y 1 0) (what := 0) (pz := -6) (E := yE1 y) (by omega) kt2 ks2 (by decide) ⟨rfl, rfl, rfl, rfl, rfl⟩
      refine ⟨T, S, f, k1, k2, k3, k4, k5, _, _, _, _, _, _, yFill_A (fun p h1 h2 => ?_) Ap.bk, by omega⟩
      show yBook (yPay y (yE1 y)) t s 0 (nI c) (-6) (yE1 y) 6 p = 0
      rw [yBook_n (i := 6) (by decide)]
      exact H.st0 p h1 h2
    · obtain ⟨p2, p3⟩ := H.top1 hc h0
      have km := H.1.1.1.2.1
      have h4 : ∀ x, x < 8 → h x ≤ 4 := fun x hx => (H.1.1.2.1 x hx).2
      have ro := hRo_c hc h4
      rw [if_neg h0, show yPull y m l t s h cl q c aim = yFill m (q - hSum (yMv (yGr (yPay y (yE1 y)) (cl c (h c - 1))) h c (cl c (h c - 1)) (yOut y h cl c aim)).2 8) ((t + 1) % 10) (nS s) (yBook (yMv (yGr (yPay y (yE1 y)) (cl c (h c - 1))) h c (cl c (h c - 1)) (yOut y h cl c aim)).1 t s (if yOut y h cl c aim < 10 then 1 else 2) (nI c) (nI (cl c (h c - 1))) (yE1 y), ((yMv (yGr (yPay y (yE1 y)) (cl c (h c - 1))) h c (cl c (h c - 1)) (yOut y h cl c aim)).2, l)) from if_neg h0]
      obtain ⟨Ag, gg⟩ := Ap.gr p2 (gp _ p2) (show yPay y (yE1 y) 6 _ = 1 from p3) wp
      have p3' : yGr (yPay y (yE1 y)) (cl c (h c - 1)) 6 (cl c (h c - 1)) = 1 := p3
      have st' : ∀ p, l ≤ p → p < m → yGr (yPay y (yE1 y)) (cl c (h c - 1)) 6 p = 0 := H.st0
      have e00 : ∀ k, yGr (yPay y (yE1 y)) (cl c (h c - 1)) 0 k = yPay y (yE1 y) 0 k := fun _ => rfl
      have pl2 : cl c (h c - 1) < l := by
        rcases Nat.lt_or_ge (cl c (h c - 1)) l with w | w
        · exact w
        · have := H.st0 _ w p2
          rw [p3] at this
          exact absurd this (by decide)
      generalize hp : cl c (h c - 1) = p at *
      generalize hG : yGr (yPay y (yE1 y)) p = Y at *
      rcases yOut_c y cl aim h0 with ⟨g, eo⟩ | ⟨g, r, eo⟩ | ⟨g, r, eo⟩
      · rw [hp, n10p] at eo
        have o10 : ¬ nI (10 + p) < 10 := nI_nlt (b := 10) (by omega) (by omega)
        have eM : yMv Y h c p (nI (10 + p)) = (yW Y h c p, hDn h c) := if_pos (Int32.not_lt.mp o10)
        rw [eo, if_pos (Int32.not_lt.mp o10), if_neg o10, eM]
        obtain ⟨T, S, f, k1, k2, k3, k4, k5, -⟩ := yFill_PO (y := y) (YA := yW Y h c p) (m := m) (k := q - hSum (hDn h c) 8) (l := l) (t := t) (s := s) (c := c) (h := hDn h c) (d2 := 0) (what := 2) (pz := nI p) (E := yE1 y) (by omega) kt2 ks2 (by decide) ⟨e00 0, rfl, e00 2, e00 3, e00 6⟩
        refine ⟨T, S, f, k1, k2, k3, k4, k5, _, _, _, _, _, _, yFill_A (fun x h1 h2 => ?_) (Ag.won (y' := yW Y h c p) p2 p3' gg rfl rfl (yLift_n (by decide))).bk, by omega⟩
        show yBook (yW Y h c p) t s 2 (nI c) (nI p) (yE1 y) 6 x = 0
        rw [yBook_n (i := 6) (by decide)]
        show upd (Y 6) p 2 x = 0
        rw [pk_un (by have : l ≤ x := h1; omega)]
        exact st' x h1 h2
      · rcases ro with ⟨-, w⟩ | ⟨j, j1, j2, j3, j4, j5⟩
        · exact absurd r.2 w
        · have eM : yMv Y h c p 2 = (yLay (yLift (yLs Y) h c) (hDn h c) j (nI p), hUp (hDn h c) j) := by
            unfold yMv
            rw [if_neg (by decide), if_pos ⟨rfl, j5⟩, j3, nI_clamp (by omega)]
            rfl
          have y0 : yLay (yLift (yLs Y) h c) (hDn h c) j (nI p) 0 = yLs Y 0 := (yLay_n (by decide) (by decide)).trans (yLift_n (by decide))
          have y6 : yLay (yLift (yLs Y) h c) (hDn h c) j (nI p) 6 = Y 6 := (yLay_n (by decide) (by decide)).trans (yLift_n (by decide))
          have y7 : yLay (yLift (yLs Y) h c) (hDn h c) j (nI p) 7 = Y 7 := (yLay_n (by decide) (by decide)).trans (yLift_n (by decide))
          rw [eo, if_neg (show ¬ (10 : Int32) ≤ 2 by decide), if_pos (show (2 : Int32) < 10 by decide), eM]
          obtain ⟨T, S, f, k1, k2, k3, k4, k5, -⟩ := yFill_PO (y := y) (YA := yLay (yLift (yLs Y) h c) (hDn h c) j (nI p)) (m := m) (k := q - hSum (hUp (hDn h c) j) 8) (l := l) (t := t) (s := s) (c := c) (h := hUp (hDn h c) j) (d2 := y 0 1 + y 1 0) (what := 1) (pz := nI p) (E := yE1 y) (by omega) kt2 ks2 (by decide) ⟨by rw [y0]; exact e00 0, by rw [y0]; exact e00 1, by rw [y0]; exact e00 2, by rw [y0]; exact e00 3, by rw [y0]; exact e00 6⟩
          refine ⟨T, S, f, k1, k2, k3, k4, k5, _, _, _, _, _, _, yFill_A (fun x h1 h2 => ?_) (AK.cg (y' := yLay (yLift (yLs Y) h c) (hDn h c) j (nI p)) Ag.lose (fun j _ => by rw [y0]) (fun i _ => by rw [y6]; rfl) (fun i _ => by rw [y7]; rfl)).bk, by omega⟩
          show yBook (yLay (yLift (yLs Y) h c) (hDn h c) j (nI p)) t s 1 (nI c) (nI p) (yE1 y) 6 x = 0
          rw [yBook_n (i := 6) (by decide), y6]
          exact st' x h1 h2
      · have eM : yMv Y h c p 1 = (yLs Y, h) := by
          unfold yMv
          rw [if_neg (by decide), if_neg (fun w => absurd w.1 (by decide))]
          rfl
        rw [eo, if_neg (show ¬ (10 : Int32) ≤ 1 by decide), if_pos (show (1 : Int32) < 10 by decide), eM]
        obtain ⟨T, S, f, k1, k2, k3, k4, k5, -⟩ := yFill_PO (y := y) (YA := yLs Y) (m := m) (k := q - hSum h 8) (l := l) (t := t) (s := s) (c := c) (h := h) (d2 := y 0 1 + y 1 0) (what := 1) (pz := nI p) (E := yE1 y) (by omega) kt2 ks2 (by decide) ⟨e00 0, e00 1, e00 2, e00 3, e00 6⟩
        refine ⟨T, S, f, k1, k2, k3, k4, k5, _, _, _, _, _, _, yFill_A (fun x h1 h2 => ?_) Ag.lose.bk, by omega⟩
        show yBook (yLs Y) t s 1 (nI c) (nI p) (yE1 y) 6 x = 0
        rw [yBook_n (i := 6) (by decide)]
        exact st' x h1 h2
  obtain ⟨T, S, f, k1, k2, k3, k4, k5, k6⟩ := key
  obtain ⟨⟨x1, x2, x3, x4⟩, -⟩ := R'.2
  obtain rfl : T = t' := (nI_eq (by omega) (by omega)).mp (k3.symm.trans x1)
  obtain rfl : S = s' := (nI_eq (by omega) (by omega)).mp (k4.symm.trans x3)
  exact ⟨_, l', T, S, h', cl', f, R', k6, k5⟩
end A2
