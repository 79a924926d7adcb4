/-! the relation is kept by filling up and by a play -/
theorem upd_cg {f g : Nat → Int32} {i j : Nat} {v w : Int32} (hv : v = w) (h : f j = g j) : upd f i v j = upd g i w j := by
  by_cases e : j = i
  · rw [e, pk_us, pk_us]
    exact hv
  · rw [pk_un e, pk_un e]
    exact h
theorem zPut_hi {z : Zz} {m p j : Nat} {c : Int32} (hp : p < 24) (h : 160 ≤ j) : zPut z m p c j = z j := by
  unfold zPut
  rw [zs_n hp (by decide) (Or.inr h), zs_n hp (by decide) (Or.inr h)]
theorem zFl_hi {m j : Nat} (h24 : m ≤ 24) (h : 160 ≤ j) : ∀ {k : Nat} {z : Zz} {n : Nat}, (zFl m k z n).1 j = z j
  | 0, _, _ => rfl
  | k + 1, z, n => by
    rw [zFl_s]
    split
    · rename_i e
      rw [zFl_hi h24 h, zPut_hi (by omega) h]
    · rfl
theorem zFl_p {m p : Nat} : ∀ {k : Nat} {z : Zz} {n : Nat}, (∀ j, j < 3 → zp (zFl m k z n).1 p j = zp z p j) ∧ (zp z p 3 = 2 → zp (zFl m k z n).1 p 3 = 2)
  | 0, _, _ => ⟨fun _ _ => rfl, fun e => e⟩
  | k + 1, z, n => by
    rw [zFl_s]
    split
    · rename_i e
      obtain ⟨e1, e2⟩ := zFl_p (m := m) (p := p) (k := k) (z := zPut z m (zNx z m m 0) (nI (zLw z m 7))) (n := n + 1)
      refine ⟨fun j hj => ?_, fun h2 => e2 ?_⟩
      · rw [e1 j hj, zp_zPut (by omega), if_neg (by omega), if_neg (by omega)]
      · have hn : p ≠ zNx z m m 0 := fun w => by
          rw [w, zNx_in (by omega)] at h2
          exact absurd h2 (by decide)
        rw [zp_zPut (by decide), if_neg (by omega), if_neg (by omega)]
        exact h2
    · exact ⟨fun _ _ => rfl, fun e => e⟩
theorem zFill_p {z : Zz} {m p : Nat} (hp : p < 24) : (∀ j, j < 3 → zp (zFill z m) p j = zp z p j) ∧ (zp z p 3 = 2 → zp (zFill z m) p 3 = 2) := by
  obtain ⟨e1, e2⟩ := zFl_p (m := m) (p := p) (k := 25) (z := z) (n := 0)
  unfold zFill
  split
  · exact ⟨e1, e2⟩
  · refine ⟨fun j hj => ?_, fun h => ?_⟩
    · rw [zp_book hp (by omega), zp_upd (by decide)]
      exact e1 j hj
    · rw [zp_book hp (by decide), zp_upd (by decide)]
      exact e2 h
theorem yFl_s {m k n : Nat} {x : Xf} : yFl m (k + 1) x n = if x.2.2 < m ∧ x.2.1 (hLw x.2.1 7) < 4 then yFl m k (fS x) (n + 1) else (x, n) := rfl
theorem yFl_12 {m : Nat} : ∀ (k : Nat) (x : Xf) (n : Nat), (yFl m k x n).1.1 12 = x.1 12
  | 0, x, n => rfl
  | k + 1, x, n => by
    have := yFl_12 k (fS x) (n + 1) (m := m)
    rw [yFl_s]
    split
    · rw [this]
      show yLay _ _ _ _ 12 = _
      rw [yLay_n (by decide) (by decide)]
      rfl
    · rfl
theorem yBook_n {y : Yy} {t s i : Nat} {a b c e : Int32} (h : i ≤ 10) : yBook y t s a b c e i = y i := by
  show yu (yu y 11 _) 12 _ i = _
  rw [yu_n (by omega), yu_n (by omega)]
theorem r1112 {y y' : Yy} (h1 : y' 11 = y 11) (h2 : y' 12 = y 12) : ∀ i, 11 ≤ i → i < 13 → ∀ k, k < yL i → y' i k = y i k := fun i a b k _ => by
  have : i = 11 ∨ i = 12 := by omega
  rcases this with rfl | rfl
  · rw [h1]
  · rw [h2]
def zFi (z : Zz) : Zz := upd z 14 (z 14 + 1)
def yFi (y : Yy) : Yy := yu y 0 (fl [y 0 0, y 0 1, y 0 2, y 0 3, y 0 4, y 0 5, y 0 6 + 1])
section R6
variable {z z' : Zz} {y y' : Yy} {b m l p c t s q : Nat} {h : Nat → Nat} {cl : Nat → Nat → Nat}
theorem RC.fil (H : RC b z y m l h cl) : RC b (zFi z) (yFi y) m l h cl := by
  obtain ⟨hP, ⟨⟨n0, n1, n2, n3, n4, n5, n6⟩, n7⟩, ⟨v1, v2⟩, ⟨s1, s2, s3, s4, s5⟩, e15⟩ := H
  have lo : ∀ j, j ≠ 14 → zFi z j = z j := fun j h1 => pk_un h1
  refine ⟨hP.eq (fun p j _ hj => lo _ (by omega)) (fun i h2 h10 k hk => ?_), ⟨⟨?_, ?_, ?_, ?_, ?_, ?_, ?_⟩, fun j hj => ?_⟩, ⟨?_, ?_⟩, ⟨fun j hj => ?_, ?_, ?_, ?_, ?_⟩, ?_⟩
  · show yu y 0 _ i k = _
    rw [yu_n (by omega)]
  · rw [lo _ (by decide)]; exact n0
  · rw [lo _ (by decide)]; exact n1
  · rw [lo _ (by decide)]; exact n2
  · rw [lo _ (by decide)]; exact n3
  · rw [lo _ (by decide)]; exact n4
  · rw [lo _ (by decide)]; exact n5
  · show y 0 6 + 1 = zFi z 14
    rw [n6]
    exact pk_us.symm
  · rw [lo _ (by omega)]; exact n7 j hj
  · rw [lo _ (by decide)]; exact v1.trans (congrArg nI (yWon_sy fun i _ => rfl))
  · rw [lo _ (by decide)]; exact v2.trans (yVal_sy fun i _ => ⟨rfl, rfl⟩)
  · rw [lo _ (by omega)]; exact s1 j hj
  · rw [lo _ (by decide)]; exact s2
  · rw [lo _ (by decide)]; exact s3
  · rw [lo _ (by decide)]; exact s4
  · rw [lo _ (by decide)]; exact s5
  · rw [lo _ (by decide)]; exact e15
theorem RC.fl : ∀ (k K : Nat) (z : Zz) (y : Yy) (l : Nat) (h : Nat → Nat) (cl : Nat → Nat → Nat) (n : Nat), RC b z y m l h cl → z 5 = nI q → q ≤ 8 → q - hSum h 8 = k → k < K → ∃ l' h' cl', RC b (zFl m K z n).1 (yFl m k (y, (h, l)) n).1.1 m l' h' cl' ∧ (zFl m K z n).2 = (yFl m k (y, (h, l)) n).2 ∧ (∀ c, c < 8 → h c ≤ h' c) ∧ (∀ c, c < 8 → 0 < h c → h' c = h c ∧ ∀ k, k < h c → cl' c k = cl c k) := by
  intro k
  induction k with
  | zero =>
    intro K z y l h cl n H hq hq8 hk hK
    obtain ⟨K, rfl⟩ : ∃ K', K = K' + 1 := ⟨K - 1, by omega⟩
    have g3 := H.1.2.2.2.2.2.2.2
    have hS := hSum_le H.1.2.1 8 (by omega)
    rw [zFl_s, g3, hq, if_neg (fun w => absurd w.1 (nI_nlt (by omega) (by omega)))]
    exact ⟨l, h, cl, H, rfl, fun _ _ => Nat.le_refl _, fun _ _ _ => ⟨rfl, fun _ _ => rfl⟩⟩
  | succ k ih =>
    intro K z y l h cl n H hq hq8 hk hK
    obtain ⟨K, rfl⟩ : ∃ K', K = K' + 1 := ⟨K - 1, by omega⟩
    have g3 := H.1.2.2.2.2.2.2.2
    have hl7 := hLw_le h 7
    have hg := hLw_0 (h := h) (by omega)
    have hlt : nI (hSum h 8) < nI q := nI_lt (by omega) (by omega)
    rw [zFl_s, yFl_s, g3, hq, H.1.nx, H.1.lw 7 (by decide), H.1.2.2.2.2.2.2.1 (hLw h 7) (by omega)]
    by_cases e : l < m ∧ h (hLw h 7) < 4
    · rw [if_pos ⟨hlt, e⟩]
      rw [show (if (y, h, l).2.2 < m ∧ (y, h, l).2.1 (hLw (y, h, l).2.1 7) < 4 then yFl m k (fS (y, h, l)) (n + 1) else ((y, h, l), n)) = yFl m k (fS (y, h, l)) (n + 1) from if_pos e]
      have H2 := H.put e.1 (c := hLw h 7) (by omega) e.2
      have hs := hSum_up (h := h) (c := hLw h 7) 8
      rw [if_pos (by omega)] at hs
      obtain ⟨l', h', cl', a1, a2, a3, a4⟩ := ih K (zPut z m l (nI (hLw h 7))) _ (l + 1) _ _ (n + 1) H2 ((zPut_lo (by decide)).trans hq) hq8 (by omega) (by omega)
      have up : ∀ c, h c ≤ hUp h (hLw h 7) c := fun c => by
        unfold hUp
        split <;> omega
      refine ⟨l', h', cl', a1, a2, fun c hc => Nat.le_trans (up c) (a3 c hc), fun c hc h0 => ?_⟩
      have hn : c ≠ hLw h 7 := fun w => by
        rw [w, hg] at h0
        omega
      have ec : hUp h (hLw h 7) c = h c := if_neg hn
      obtain ⟨b1, b2⟩ := a4 c hc (by omega)
      refine ⟨b1.trans ec, fun k hk => ?_⟩
      rw [b2 k (by omega), cUp_n (fun w => hn w.1)]
    · rw [if_neg (fun w => e w.2)]
      rw [show (if (y, h, l).2.2 < m ∧ (y, h, l).2.1 (hLw (y, h, l).2.1 7) < 4 then yFl m k (fS (y, h, l)) (n + 1) else ((y, h, l), n)) = ((y, h, l), n) from if_neg e]
      exact ⟨l, h, cl, H, rfl, fun _ _ => Nat.le_refl _, fun _ _ _ => ⟨rfl, fun _ _ => rfl⟩⟩
theorem RR.fill (H : RR b z y m l t s h cl) (hq : z 5 = nI q) (hq8 : q ≤ 8) : ∃ l' t' s' h' cl', RR b (zFill z m) (yFill m (q - hSum h 8) t s (y, (h, l))) m l' t' s' h' cl' ∧ (∀ c, c < 8 → h c ≤ h' c) ∧ (∀ c, c < 8 → 0 < h c → h' c = h c ∧ ∀ k, k < h c → cl' c k = cl c k) := by
  obtain ⟨l', h', cl', hC, e2, f1, f2⟩ := RC.fl (q - hSum h 8) 25 z y l h cl 0 H.1 hq hq8 rfl (by omega)
  have h24 := H.1.1.1.2.1
  have e11 := yFl_11 (m := m) (q - hSum h 8) (y, (h, l)) 0
  have e12 := yFl_12 (m := m) (q - hSum h 8) (y, (h, l)) 0
  have hB := H.2.cg (z' := (zFl m 25 z 0).1) (fun j h1 _ => zFl_hi h24 h1) (r1112 e11 e12)
  unfold zFill yFill
  rw [e2]
  generalize (zFl m 25 z 0).1 = z2 at hC hB ⊢
  generalize yFl m (q - hSum h 8) (y, (h, l)) 0 = x2 at hC hB ⊢
  by_cases n0 : x2.2 = 0
  · rw [if_pos n0, if_pos n0]
    exact ⟨l', t, s, h', cl', ⟨hC, hB⟩, f1, f2⟩
  · rw [if_neg n0, if_neg n0]
    have hR : RR b (zFi z2) (yFi x2.1.1) m l' t s h' cl' := ⟨hC.fil, hB.cg (fun j h1 _ => pk_un (by omega)) (r1112 rfl rfl)⟩
    exact ⟨l', _, _, h', cl', hR.book 3 (-6) (nI x2.2) 0, f1, f2⟩
theorem RR.winB (H : RR b z y m l t s h cl) (hc : c < 8) (h0 : ¬ h c = 0) (F : Int32) : RR b (zWin z (cl c (h c - 1)) (nI c) F) (yBook (yW y h c (cl c (h c - 1))) t s 2 (nI c) (nI (cl c (h c - 1))) F) m l ((t + 1) % 10) (nS s) (hDn h c) cl := by
  have h24 := H.1.1.1.2.1
  obtain ⟨-, p2, -⟩ := H.1.1.2.2.2.2.1 c hc (h c - 1) (by omega)
  have hW := H.1.win hc h0
  generalize cl c (h c - 1) = p at hW p2 ⊢
  refine ⟨hW.cg (fun j hj => ?_) (fun i hi k hk => by rw [yBook_n hi]), (H.2.book 2 (nI c) (nI p) F).cg (fun j hj _ => ?_) (r1112 rfl ?_)⟩
  · unfold zWin zW zTake zset
    exact upd_cg rfl (upd_cg rfl (upd_cg rfl (upd_cg rfl (upd_cg rfl (zBook_lo hj)))))
  · unfold zWin zTake
    rw [pk_un (by omega), pk_un (by omega), pk_un (by omega), zs_n (by omega) (by decide) (Or.inr hj), zs_n (by omega) (by decide) (Or.inr hj)]
  · have e12 : yW y h c p 12 = y 12 := yLift_n (by decide)
    show upd (upd (upd (upd (yW y h c p 12) _ _) _ _) _ _) _ _ = upd (upd (upd (upd (y 12) _ _) _ _) _ _) _ _
    rw [e12]
def zLb (z : Zz) (a e F : Int32) : Zz := upd (zBook z 1 a e F) 12 (z 12 + 1)
theorem RR.loseB (H : RR b z y m l t s h cl) (a e F : Int32) : RR b (zLb z a e F) (yBook (yLs y) t s 1 a e F) m l ((t + 1) % 10) (nS s) h cl := by
  refine ⟨H.1.lose.cg (fun j hj => upd_cg rfl (zBook_lo hj)) (fun i hi k hk => by rw [yBook_n hi]), (H.2.book 1 a e F).cg (fun j hj _ => pk_un (by omega)) (r1112 rfl rfl)⟩
theorem RR.rollB {j : Nat} (H : RR b z y m l t s h cl) (hc : c < 8) (h0 : ¬ h c = 0) (hj : j < 8) (hjc : j ≠ c) (h4 : h j < 4) (a e F : Int32) : RR b (zPut (zLb z a e F) m (cl c (h c - 1)) (nI j)) (yBook (yLay (yLift (yLs y) h c) (hDn h c) j (nI (cl c (h c - 1)))) t s 1 a e F) m l ((t + 1) % 10) (nS s) (hUp (hDn h c) j) (cUp cl (hDn h c) j (cl c (h c - 1))) := by
  have h24 := H.1.1.1.2.1
  obtain ⟨-, p2, -⟩ := H.1.1.2.2.2.2.1 c hc (h c - 1) (by omega)
  have hL : RC b (zLb z a e F) (yLs y) m l h cl := H.1.lose.cg (fun j hj => upd_cg rfl (zBook_lo hj)) (fun i hi k hk => rfl)
  have hR := hL.roll hc h0 hj hjc h4
  refine ⟨hR.cg (fun j hj => rfl) (fun i hi k hk => by rw [yBook_n hi]), (H.2.book 1 a e F).cg (fun j hj _ => ?_) (r1112 rfl ?_)⟩
  · rw [zPut_hi (by omega) hj]
    exact pk_un (by omega)
  · have e12 : yLay (yLift (yLs y) h c) (hDn h c) j (nI (cl c (h c - 1))) 12 = y 12 := by
      rw [yLay_n (by decide) (by decide), yLift_n (by decide)]
      rfl
    show upd (upd (upd (upd (yLay (yLift (yLs y) h c) (hDn h c) j (nI (cl c (h c - 1))) 12) _ _) _ _) _ _) _ _ = upd (upd (upd (upd (y 12) _ _) _ _) _ _) _ _
    rw [e12]
theorem yOut_c (y : Yy) {c : Nat} {h : Nat → Nat} (cl : Nat → Nat → Nat) (aim : Int32) (h0 : ¬ h c = 0) : (¬ yGrip y aim < yLoad y h c (cl c (h c - 1)) aim ∧ yOut y h cl c aim = 10 + nI (cl c (h c - 1))) ∨ (yGrip y aim < yLoad y h c (cl c (h c - 1)) aim ∧ (y 3 (cl c (h c - 1)) = 1 ∧ (0 ≤ hRo h c ∧ hRo h c < 8)) ∧ yOut y h cl c aim = 2) ∨ (yGrip y aim < yLoad y h c (cl c (h c - 1)) aim ∧ ¬ (y 3 (cl c (h c - 1)) = 1 ∧ (0 ≤ hRo h c ∧ hRo h c < 8)) ∧ yOut y h cl c aim = 1) := by
  unfold yOut
  rw [if_neg h0]
  by_cases g : yGrip y aim < yLoad y h c (cl c (h c - 1)) aim
  · have g2 : ¬ ¬ yGrip y aim < yLoad y h c (cl c (h c - 1)) aim := fun w => w g
    rw [if_neg g2]
    by_cases r : y 3 (cl c (h c - 1)) = 1 ∧ (0 ≤ hRo h c ∧ hRo h c < 8)
    · rw [if_pos r]
      exact Or.inr (Or.inl ⟨g, r, rfl⟩)
    · rw [if_neg r]
      exact Or.inr (Or.inr ⟨g, r, rfl⟩)
  · rw [if_pos g]
    exact Or.inl ⟨g, rfl⟩
theorem n10p {p : Nat} : (10 : Int32) + nI p = nI (10 + p) := nI_add 10 p
theorem RR.play (H : RR b z y m l t s h cl) (hq : z 5 = nI q) (hq8 : q ≤ 8) (hc : c < 8) (aim : Int32) : ∃ l' t' s' h' cl', RR (b + 9) (zPlay z m (nI c) aim).1 (yPull y m l t s h cl q c aim) m l' t' s' h' cl' ∧ (zPlay z m (nI c) aim).2 = (if yOut y h cl c aim = 2 then 1 else yOut y h cl c aim) ∧ (¬ h c = 0 → (yOut y h cl c aim = 1 → h' c = h c ∧ (∀ k, k < h c → cl' c k = cl c k) ∧ (∀ x, x < 8 → h x ≤ h' x)) ∧ (yOut y h cl c aim = 2 → ∃ j k, j < 8 ∧ j ≠ c ∧ k < h' j ∧ cl' j k = cl c (h c - 1)) ∧ (10 ≤ yOut y h cl c aim → zp (zPlay z m (nI c) aim).1 (cl c (h c - 1)) 3 = 2)) := by
  have h24 := H.1.1.1.2.1
  have h4 := H.1.1.h4
  have eF : yE1 y = zF z := H.1.zF
  have H1 := H.1.pay
  have q5 : zPd z 5 = nI q := (zPd_n (by decide)).trans hq
  have B1 : RB (zPd z) (yPay y (yE1 y)) t s := H.2.cg (fun j hj _ => zPd_n (by omega)) (r1112 rfl rfl)
  by_cases h0 : h c = 0
  · have t0 := H1.1.top0 hc h0
    have eo : yOut y h cl c aim = 0 := if_pos h0
    unfold zPlay yPull
    rw [if_pos t0, if_pos h0, eo]
    have R1 : RR (b + 9) (zPd z) (yPay y (yE1 y)) m l t s h cl := ⟨H1, B1⟩
    rw [← eF]
    obtain ⟨l', t', s', h', cl', a1, -⟩ := (R1.book 0 (nI c) (-6) (yE1 y)).fill ((zBook_lo (by decide)).trans q5) hq8
    exact ⟨l', t', s', h', cl', a1, rfl, fun w => absurd h0 w⟩
  · obtain ⟨t1, t2, t3⟩ := H1.1.top hc h0
    have ld : zLoad (zPd z) m (cl c (h c - 1)) (nI c) aim = yLoad y h c (cl c (h c - 1)) aim := H1.1.ld hc t2 aim
    have gp : zGrip (zPd z) (z 7 + z 0) aim = yGrip y aim := by
      rw [← H.1.gp aim]
      unfold zGrip
      rw [zPd_n (j := 1) (by decide), zPd_n (j := 2) (by decide), zPd_n (j := 3) (by decide), zPd_n (j := 4) (by decide)]
    have ez : zPlay z m (nI c) aim = if yGrip y aim < yLoad y h c (cl c (h c - 1)) aim then (zFill (zLose (zGr (zPd z) (cl c (h c - 1))) m (cl c (h c - 1)) (nI c) (zF z)) m, 1) else (zFill (zWin (zGr (zPd z) (cl c (h c - 1))) (cl c (h c - 1)) (nI c) (zF z)) m, 10 + nI (cl c (h c - 1))) := by
      unfold zPlay
      rw [t1, if_neg (nI_m6 (by omega)), nI_clamp (by omega), ld, gp]
    have Rg : RR (b + 9) (zGr (zPd z) (cl c (h c - 1))) (yGr (yPay y (yE1 y)) (cl c (h c - 1))) m l t s h cl := ⟨H1.gr t2, B1.cg (fun j hj _ => zs_n (by omega) (by decide) (Or.inr hj)) (r1112 rfl rfl)⟩
    have q5g : zGr (zPd z) (cl c (h c - 1)) 5 = nI q := (zGr_lo (by decide)).trans q5
    have ro := hRo_c hc h4
    have eP : yPull y m l t s h cl q c aim = yFill m (q - hSum (yMv (yGr (yPay y (yE1 y)) (cl c (h c - 1))) h c (cl c (h c - 1)) (yOut y h cl c aim)).2 8) ((t + 1) % 10) (nS s) (yBook (yMv (yGr (yPay y (yE1 y)) (cl c (h c - 1))) h c (cl c (h c - 1)) (yOut y h cl c aim)).1 t s (if yOut y h cl c aim < 10 then 1 else 2) (nI c) (nI (cl c (h c - 1))) (yE1 y), ((yMv (yGr (yPay y (yE1 y)) (cl c (h c - 1))) h c (cl c (h c - 1)) (yOut y h cl c aim)).2, l)) := if_neg h0
    rw [ez, eP, ← eF]
    rcases yOut_c y cl aim h0 with ⟨g, eo⟩ | ⟨g, r, eo⟩ | ⟨g, r, eo⟩
    · have o10 : ¬ (10 : Int32) + nI (cl c (h c - 1)) < 10 := by
        rw [n10p]
        exact nI_nlt (b := 10) (by omega) (by omega)
      have o2 : ¬ (10 : Int32) + nI (cl c (h c - 1)) = 2 := by
        rw [n10p]
        exact fun w => absurd ((nI_eq (b := 2) (by omega) (by decide)).mp w) (by omega)
      have o1 : ¬ (10 : Int32) + nI (cl c (h c - 1)) = 1 := by
        rw [n10p]
        exact fun w => absurd ((nI_eq (b := 1) (by omega) (by decide)).mp w) (by omega)
      have eM : yMv (yGr (yPay y (yE1 y)) (cl c (h c - 1))) h c (cl c (h c - 1)) (10 + nI (cl c (h c - 1))) = (yW (yGr (yPay y (yE1 y)) (cl c (h c - 1))) h c (cl c (h c - 1)), hDn h c) := if_pos (Int32.not_lt.mp o10)
      rw [eo, if_neg g, if_neg o10, if_neg o2, eM]
      obtain ⟨l', t', s', h', cl', a1, -⟩ := (Rg.winB hc h0 (yE1 y)).fill (q := q) (by
        unfold zWin
        rw [pk_un (by decide), pk_un (by decide), pk_un (by decide), zTake_n (by decide), zBook_lo (by decide)]
        exact q5g) hq8
      refine ⟨l', t', s', h', cl', a1, rfl, fun _ => ⟨fun w => absurd w o1, fun w => absurd w o2, fun _ => ?_⟩⟩
      refine (zFill_p (by omega)).2 ?_
      unfold zWin
      rw [zp_upd (by decide), zp_upd (by decide), zp_upd (by decide)]
      exact z34_3
    · rcases ro with ⟨-, w⟩ | ⟨j, j1, j2, j3, j4, j5⟩
      · exact absurd r.2 w
      · have eM : yMv (yGr (yPay y (yE1 y)) (cl c (h c - 1))) h c (cl c (h c - 1)) 2 = (yLay (yLift (yLs (yGr (yPay y (yE1 y)) (cl c (h c - 1)))) h c) (hDn h c) j (nI (cl c (h c - 1))), hUp (hDn h c) j) := by
          unfold yMv
          rw [if_neg (by decide), if_pos ⟨rfl, j5⟩, j3, nI_clamp (by omega)]
          rfl
        have b0 := h4 c hc
        have hR := Rg.rollB hc h0 j1 j2 (by omega) (nI c) (nI (cl c (h c - 1))) (yE1 y)
        have hLb := Rg.loseB (nI c) (nI (cl c (h c - 1))) (yE1 y)
        have eL : zLose (zGr (zPd z) (cl c (h c - 1))) m (cl c (h c - 1)) (nI c) (yE1 y) = zPut (zLb (zGr (zPd z) (cl c (h c - 1))) (nI c) (nI (cl c (h c - 1))) (yE1 y)) m (cl c (h c - 1)) (nI j) := by
          have k3 := (hLb.1.1.2.2.1 _ t2).1.1
          have e3 : zp (zLb (zGr (zPd z) (cl c (h c - 1))) (nI c) (nI (cl c (h c - 1))) (yE1 y)) (cl c (h c - 1)) 0 = 1 := k3.symm.trans r.1
          have e4 := hLb.1.1.to hc
          unfold zLose zRoll
          show (if zp (zLb (zGr (zPd z) (cl c (h c - 1))) (nI c) (nI (cl c (h c - 1))) (yE1 y)) (cl c (h c - 1)) 0 = 1 ∧ zTo (zLb (zGr (zPd z) (cl c (h c - 1))) (nI c) (nI (cl c (h c - 1))) (yE1 y)) m (nI c) ≠ -6 then zPut (zLb (zGr (zPd z) (cl c (h c - 1))) (nI c) (nI (cl c (h c - 1))) (yE1 y)) m (cl c (h c - 1)) (zTo (zLb (zGr (zPd z) (cl c (h c - 1))) (nI c) (nI (cl c (h c - 1))) (yE1 y)) m (nI c)) else (zLb (zGr (zPd z) (cl c (h c - 1))) (nI c) (nI (cl c (h c - 1))) (yE1 y))) = _
          rw [e4, j3, if_pos ⟨e3, nI_m6 (by omega)⟩]
        rw [eo, if_pos g, eL, eM, if_pos (by decide), if_pos rfl]
        obtain ⟨l', t', s', h', cl', a1, a2, a3⟩ := hR.fill (q := q) (by
          rw [zPut_lo (by decide)]
          unfold zLb
          rw [pk_un (by decide), zBook_lo (by decide)]
          exact q5g) hq8
        refine ⟨l', t', s', h', cl', a1, rfl, fun _ => ⟨fun w => absurd w (by decide), fun _ => ?_, fun w => absurd w (by decide)⟩⟩
        have ej : hUp (hDn h c) j j = hDn h c j + 1 := if_pos rfl
        obtain ⟨c1, c2⟩ := a3 j j1 (by omega)
        exact ⟨j, hDn h c j, j1, j2, by omega, (c2 _ (by omega)).trans cUp_e⟩
    · have eM : yMv (yGr (yPay y (yE1 y)) (cl c (h c - 1))) h c (cl c (h c - 1)) 1 = (yLs (yGr (yPay y (yE1 y)) (cl c (h c - 1))), h) := by
        unfold yMv
        rw [if_neg (by decide), if_neg (fun w => absurd w.1 (by decide))]
        rfl
      have hLb := Rg.loseB (nI c) (nI (cl c (h c - 1))) (yE1 y)
      have eL : zLose (zGr (zPd z) (cl c (h c - 1))) m (cl c (h c - 1)) (nI c) (yE1 y) = zLb (zGr (zPd z) (cl c (h c - 1))) (nI c) (nI (cl c (h c - 1))) (yE1 y) := by
        have k3 := (hLb.1.1.2.2.1 _ t2).1.1
        have e4 := hLb.1.1.to hc
        unfold zLose zRoll
        refine if_neg fun w => ?_
        have w2 : zTo (zLb (zGr (zPd z) (cl c (h c - 1))) (nI c) (nI (cl c (h c - 1))) (yE1 y)) m (nI c) ≠ -6 := w.2
        rw [e4] at w2
        rcases ro with ⟨w3, -⟩ | ⟨j, j1, j2, j3, j4, j5⟩
        · exact w2 w3
        · exact r ⟨k3.trans w.1, j5⟩
      rw [eo, if_pos g, eL, eM, if_pos (by decide), if_neg (by decide)]
      obtain ⟨l', t', s', h', cl', a1, a2, a3⟩ := hLb.fill (q := q) (by
        unfold zLb
        rw [pk_un (by decide), zBook_lo (by decide)]
        exact q5g) hq8
      refine ⟨l', t', s', h', cl', a1, rfl, fun _ => ⟨fun _ => ?_, fun w => absurd w (by decide), fun w => absurd w (by decide)⟩⟩
      obtain ⟨c1, c2⟩ := a3 c hc (by omega)
      exact ⟨c1, c2, a2⟩
end R6
