/-! the relation is kept: paid, gripped, won, slipped, rolled, laid, come, set, coins put in -/
theorem yWon_sy {y y' : Yy} {m : Nat} (h : ∀ i, i < m → y' 6 i = y 6 i) : yWon y m = yWon y' m := (yWon_cg h).symm
theorem yVal_sy {y y' : Yy} {m : Nat} (h : ∀ i, i < m → y' 6 i = y 6 i ∧ y' 5 i = y 5 i) : yVal y m = yVal y' m := (yVal_cg h).symm
theorem zPd_n {z : Zz} {j : Nat} (h : j < 6 ∨ 10 < j) : zPd z j = z j := by
  unfold zPd zP4
  rw [pk_un (by omega), pk_un (by omega), pk_un (by omega), pk_un (by omega), pk_un (by omega)]
theorem zPd_v {z : Zz} : zPd z 6 = z 6 - z 0 ∧ zPd z 7 = z 7 + z 0 ∧ zPd z 8 = z 8 + z 0 ∧ zPd z 9 = z 9 + 1 ∧ zPd z 10 = z 10 + zF z := by
  unfold zPd
  refine ⟨?_, ?_, ?_, ?_, pk_us⟩
  · rw [pk_un (by decide)]
    unfold zP4
    rw [pk_un (by decide), pk_un (by decide), pk_un (by decide), pk_us]
  · rw [pk_un (by decide)]
    unfold zP4
    rw [pk_un (by decide), pk_un (by decide), pk_us]
  · rw [pk_un (by decide)]
    unfold zP4
    rw [pk_un (by decide), pk_us]
  · rw [pk_un (by decide)]
    unfold zP4
    rw [pk_us]
def zW (z : Zz) (p : Nat) : Zz := upd (upd (upd (zTake z p 2) 7 0) 11 (z 11 + 1)) 13 (z 13 + zp z p 2)
def yW (y : Yy) (h : Nat → Nat) (c p : Nat) : Yy := yu (yu (yLift y h c) 6 (upd (y 6) p 2)) 0 (fl [y 0 0, 0, y 0 2, y 0 3, y 0 4, y 0 5, y 0 6])
def zLs (z : Zz) : Zz := upd z 12 (z 12 + 1)
def yLs (y : Yy) : Yy := yu y 0 (fl [y 0 0, y 0 1, y 0 2, y 0 3, y 0 4, y 0 5 + 1, y 0 6])
theorem zTake_n {z : Zz} {p j : Nat} {v : Int32} (h : j < 16) : zTake z p v j = z j := by
  unfold zTake
  rw [zset_lo h, zset_lo h]
theorem zPut_eq {z : Zz} {m p c hc : Nat} (e : zCnt z (nI c) m = hc) : zPut z m p (nI c) = zset (zset z p 3 1) p 4 (nI (10 * c + hc)) := by
  unfold zPut
  rw [e, n10, nI_add]
theorem hDn_n {h : Nat → Nat} {c j : Nat} (e : j ≠ c) : hDn h c j = h j := if_neg e
theorem zPrz_n {z : Zz} {m q j : Nat} {k g v : Int32} (hj : j < 6) (h : q ≠ m) : zp (zPrz z m k g v) q j = zp z q j := by
  unfold zPrz zTake
  rw [zp_upd (by decide), zp_zs (by decide) hj, if_neg (by omega), zp_zs (by decide) hj, if_neg (by omega), zp_zs (by decide) hj, if_neg (by omega), zp_zs (by decide) hj, if_neg (by omega), zp_zs (by decide) hj, if_neg (by omega), zp_zs (by decide) hj, if_neg (by omega)]
theorem zPrz_v {z : Zz} {m : Nat} {k g v : Int32} : zp (zPrz z m k g v) m 0 = k ∧ zp (zPrz z m k g v) m 1 = g ∧ zp (zPrz z m k g v) m 2 = v ∧ zp (zPrz z m k g v) m 3 = 0 ∧ zp (zPrz z m k g v) m 4 = -6 ∧ zp (zPrz z m k g v) m 5 = 0 := by
  unfold zPrz zTake
  refine ⟨?_, ?_, ?_, ?_, ?_, ?_⟩ <;> rw [zp_upd (by decide)] <;> simp only [zp_zs, Nat.reduceLT, true_and, Nat.reduceEqDiff, if_true, if_false, and_false, and_true]
theorem zPrz_lo {z : Zz} {m j : Nat} {k g v : Int32} (h : j < 15) : zPrz z m k g v j = z j := by
  unfold zPrz
  rw [pk_un (by omega), zset_lo (by omega), zTake_n (by omega), zset_lo (by omega), zset_lo (by omega), zset_lo (by omega)]
section R4
variable {z z' : Zz} {y y' : Yy} {b m l p c t s : Nat} {h : Nat → Nat} {cl : Nat → Nat → Nat}
theorem RC.full (H : RC b z y m l h cl) : (y 0 1 + y 1 0 < y 1 1) = (z 7 + z 0 < z 1) := by
  obtain ⟨hP, ⟨⟨n0, n1, n2, n3, n4, n5, n6⟩, n7⟩, -⟩ := H
  rw [n1, n7 0 (by decide), n7 1 (by decide)]
theorem RC.zF (H : RC b z y m l h cl) : yE1 y = zF z := bI_cg (by rw [H.full])
theorem RC.pay (H : RC b z y m l h cl) : RC (b + 9) (zPd z) (yPay y (yE1 y)) m l h cl := by
  have eF := H.zF
  obtain ⟨hP, ⟨⟨n0, n1, n2, n3, n4, n5, n6⟩, n7⟩, ⟨v1, v2⟩, ⟨s1, ⟨a, sa, sa2⟩, s2, s3, ⟨si, e7, h7⟩⟩, e15⟩ := H
  obtain ⟨p6, p7, p8, p9, p10⟩ := zPd_v (z := z)
  have n70 := n7 0 (by decide)
  refine ⟨hP.eq (fun p j _ hj => zPd_n (by omega)) (fun i h2 h10 k hk => ?_), ⟨⟨?_, ?_, ?_, ?_, ?_, ?_, ?_⟩, fun j hj => ?_⟩, ⟨?_, ?_⟩, ⟨fun j hj => ?_, ?_, ?_, ?_, ?_⟩, ?_⟩
  · show yu y 0 _ i k = _
    rw [yu_n (by omega)]
  · show y 0 0 - y 1 0 = _
    rw [p6, n0, n70]
  · show y 0 1 + y 1 0 = _
    rw [p7, n1, n70]
  · show y 0 2 + y 1 0 = _
    rw [p8, n2, n70]
  · show y 0 3 + 1 = _
    rw [p9, n3]
  · show y 0 4 + yE1 y = _
    rw [p10, n4, eF]
  · show y 0 5 = _
    rw [zPd_n (by decide), n5]
  · show y 0 6 = _
    rw [zPd_n (by decide), n6]
  · rw [zPd_n (by omega)]
    exact n7 j hj
  · rw [zPd_n (by decide)]
    exact v1.trans (congrArg nI (yWon_sy fun i _ => rfl))
  · rw [zPd_n (by decide)]
    exact v2.trans (yVal_sy fun i _ => ⟨rfl, rfl⟩)
  · rw [zPd_n (by omega)]
    exact s1 j hj
  · rw [zPd_n (by decide)]
    exact ⟨a, sa, sa2⟩
  · rw [zPd_n (by decide)]
    exact s2
  · rw [zPd_n (by decide)]
    exact s3
  · exact ⟨si + a, by rw [p7, e7, sa, nI_add], by omega⟩
  · rw [zPd_n (by decide)]
    exact e15
theorem RC.gr (H : RC b z y m l h cl) (hp : p < m) : RC b (zGr z p) (yGr y p) m l h cl := by
  obtain ⟨hP, ⟨⟨n0, n1, n2, n3, n4, n5, n6⟩, n7⟩, ⟨v1, v2⟩, ⟨s1, s2, s3, s4, s5⟩, e15⟩ := H
  refine ⟨hP.gr hp, ⟨⟨?_, ?_, ?_, ?_, ?_, ?_, ?_⟩, fun j hj => ?_⟩, ⟨?_, ?_⟩, ⟨fun j hj => ?_, ?_, ?_, ?_, ?_⟩, ?_⟩
  · rw [zGr_lo (by decide)]; exact n0
  · rw [zGr_lo (by decide)]; exact n1
  · rw [zGr_lo (by decide)]; exact n2
  · rw [zGr_lo (by decide)]; exact n3
  · rw [zGr_lo (by decide)]; exact n4
  · rw [zGr_lo (by decide)]; exact n5
  · rw [zGr_lo (by decide)]; exact n6
  · rw [zGr_lo (by omega)]; exact n7 j hj
  · rw [zGr_lo (by decide)]; exact v1.trans (congrArg nI (yWon_sy fun i _ => rfl))
  · rw [zGr_lo (by decide)]; exact v2.trans (yVal_sy fun i _ => ⟨rfl, rfl⟩)
  · rw [zGr_lo (by omega)]; exact s1 j hj
  · rw [zGr_lo (by decide)]; exact s2
  · rw [zGr_lo (by decide)]; exact s3
  · rw [zGr_lo (by decide)]; exact s4
  · rw [zGr_lo (by decide)]; exact s5
  · rw [zGr_lo (by decide)]; exact e15
theorem RC.win (H : RC b z y m l h cl) (hc : c < 8) (h0 : ¬ h c = 0) : RC b (zW z (cl c (h c - 1))) (yW y h c (cl c (h c - 1))) m l (hDn h c) cl := by
  obtain ⟨hP, ⟨⟨n0, n1, n2, n3, n4, n5, n6⟩, n7⟩, ⟨v1, v2⟩, ⟨s1, s2, s3, s4, s5⟩, e15⟩ := H
  have hH := hP.fromTop hc h0
  obtain ⟨-, p2, p3, -⟩ := hP.2.2.2.2.1 c hc (h c - 1) (by omega)
  generalize cl c (h c - 1) = p at hH p2 p3 ⊢
  have q := hP.2.2.1 p p2
  have y6 : y 6 p = 1 := q.1.2.2.2.1.trans p3
  have y5 : y 5 p = zp z p 2 := q.1.2.2.1
  have lo : ∀ j, j < 16 → j ≠ 7 → j ≠ 11 → j ≠ 13 → zW z p j = z j := fun j h1 h2 h3 h4 => by
    unfold zW
    rw [pk_un h4, pk_un h3, pk_un h2, zTake_n h1]
  have w6 : yW y h c p 6 = upd (y 6) p 2 := rfl
  have w5 : yW y h c p 5 = y 5 := yLift_n (by decide)
  refine ⟨(hH.won (y' := yW y h c p) rfl rfl rfl rfl rfl ?_ (fun q hq => ?_) rfl rfl).eq (fun q j _ hj => ?_) (fun i _ _ k _ => rfl), ⟨⟨?_, ?_, ?_, ?_, ?_, ?_, ?_⟩, fun j hj => ?_⟩, ⟨?_, ?_⟩, ⟨fun j hj => ?_, ?_, ?_, ?_, ?_⟩, ?_⟩
  · rw [w6, pk_us]
  · rw [w6, pk_un hq, yLift_n (by decide)]
  · unfold zW
    rw [zp_upd (by decide), zp_upd (by decide), zp_upd (by decide)]
  · rw [lo 6 (by decide) (by decide) (by decide) (by decide)]; exact n0
  · unfold zW
    rw [pk_un (by decide), pk_un (by decide), pk_us]
    rfl
  · rw [lo 8 (by decide) (by decide) (by decide) (by decide)]; exact n2
  · rw [lo 9 (by decide) (by decide) (by decide) (by decide)]; exact n3
  · rw [lo 10 (by decide) (by decide) (by decide) (by decide)]; exact n4
  · rw [lo 12 (by decide) (by decide) (by decide) (by decide)]; exact n5
  · rw [lo 14 (by decide) (by decide) (by decide) (by decide)]; exact n6
  · rw [lo j (by omega) (by omega) (by omega) (by omega), show yW y h c p 1 = y 1 from yLift_n (by decide)]; exact n7 j hj
  · have e : zW z p 11 = z 11 + 1 := by
      unfold zW
      rw [pk_un (by decide), pk_us]
    rw [e, v1, nI_1, yWon_1 (y := y) (y' := yW y h c p) p2 (fun i _ hi => by rw [w6, pk_un hi]) (by rw [y6]; decide) (by rw [w6, pk_us])]
  · have e : zW z p 13 = z 13 + zp z p 2 := pk_us
    rw [e, v2, yVal_1 (y := y) (y' := yW y h c p) p2 (fun i _ hi => by rw [w6, pk_un hi]) (fun i _ => by rw [w5]) (by rw [y6]; decide) (by rw [w6, pk_us]), y5]
  · rw [lo j (by omega) (by omega) (by omega) (by omega)]; exact s1 j hj
  · rw [lo 0 (by decide) (by decide) (by decide) (by decide)]; exact s2
  · rw [lo 1 (by decide) (by decide) (by decide) (by decide)]; exact s3
  · rw [lo 5 (by decide) (by decide) (by decide) (by decide)]; exact s4
  · refine ⟨0, ?_, Nat.zero_le _⟩
    unfold zW
    rw [pk_un (by decide), pk_un (by decide), pk_us]
    rfl
  · rw [lo 15 (by decide) (by decide) (by decide) (by decide)]; exact e15
theorem RC.lose (H : RC b z y m l h cl) : RC b (zLs z) (yLs y) m l h cl := by
  obtain ⟨hP, ⟨⟨n0, n1, n2, n3, n4, n5, n6⟩, n7⟩, ⟨v1, v2⟩, ⟨s1, s2, s3, s4, s5⟩, e15⟩ := H
  have lo : ∀ j, j ≠ 12 → zLs z j = z j := fun j h1 => pk_un h1
  refine ⟨hP.eq (fun p j _ hj => lo _ (by omega)) (fun i h2 h10 k hk => ?_), ⟨⟨?_, ?_, ?_, ?_, ?_, ?_, ?_⟩, fun j hj => ?_⟩, ⟨?_, ?_⟩, ⟨fun j hj => ?_, ?_, ?_, ?_, ?_⟩, ?_⟩
  · show yu y 0 _ i k = _
    rw [yu_n (by omega)]
  · rw [lo _ (by decide)]; exact n0
  · rw [lo _ (by decide)]; exact n1
  · rw [lo _ (by decide)]; exact n2
  · rw [lo _ (by decide)]; exact n3
  · rw [lo _ (by decide)]; exact n4
  · show y 0 5 + 1 = zLs z 12
    rw [n5]
    exact pk_us.symm
  · rw [lo _ (by decide)]; exact n6
  · rw [lo _ (by omega)]; exact n7 j hj
  · rw [lo _ (by decide)]; exact v1.trans (congrArg nI (yWon_sy fun i _ => rfl))
  · rw [lo _ (by decide)]; exact v2.trans (yVal_sy fun i _ => ⟨rfl, rfl⟩)
  · rw [lo _ (by omega)]; exact s1 j hj
  · rw [lo _ (by decide)]; exact s2
  · rw [lo _ (by decide)]; exact s3
  · rw [lo _ (by decide)]; exact s4
  · rw [lo _ (by decide)]; exact s5
  · rw [lo _ (by decide)]; exact e15
/-- prizes moved: what else there is stays -/
theorem RC.mv {l' : Nat} {h' : Nat → Nat} {cl' : Nat → Nat → Nat} (H : RC b z y m l h cl) (hP' : RP z' y' m l' h' cl') (e : ∀ j, j < 16 → z' j = z j) (e0 : y' 0 = y 0) (e1 : y' 1 = y 1) (e5 : y' 5 = y 5) (e6 : ∀ i, i < m → (y' 6 i = y 6 i ∨ (y' 6 i ≠ 2 ∧ y 6 i ≠ 2))) : RC b z' y' m l' h' cl' := by
  obtain ⟨hP, ⟨⟨n0, n1, n2, n3, n4, n5, n6⟩, n7⟩, ⟨v1, v2⟩, ⟨s1, s2, s3, s4, s5⟩, e15⟩ := H
  have k1 : ∀ n, n ≤ m → yWon y' n = yWon y n := by
    intro n
    induction n with
    | zero => intro _; rfl
    | succ n ih =>
      intro hn
      unfold yWon
      rw [ih (by omega)]
      rcases e6 n (by omega) with q | ⟨q1, q2⟩
      · rw [q]
      · rw [if_neg q1, if_neg q2]
  have k2 : ∀ n, n ≤ m → yVal y' n = yVal y n := by
    intro n
    induction n with
    | zero => intro _; rfl
    | succ n ih =>
      intro hn
      unfold yVal
      rw [ih (by omega), e5]
      rcases e6 n (by omega) with q | ⟨q1, q2⟩
      · rw [q]
      · rw [if_neg q1, if_neg q2]
  refine ⟨hP', ⟨⟨?_, ?_, ?_, ?_, ?_, ?_, ?_⟩, fun j hj => ?_⟩, ⟨?_, ?_⟩, ⟨fun j hj => ?_, ?_, ?_, ?_, ?_⟩, ?_⟩
  · rw [e0, e 6 (by decide)]; exact n0
  · rw [e0, e 7 (by decide)]; exact n1
  · rw [e0, e 8 (by decide)]; exact n2
  · rw [e0, e 9 (by decide)]; exact n3
  · rw [e0, e 10 (by decide)]; exact n4
  · rw [e0, e 12 (by decide)]; exact n5
  · rw [e0, e 14 (by decide)]; exact n6
  · rw [e1, e j (by omega)]; exact n7 j hj
  · rw [e 11 (by decide), k1 m (Nat.le_refl _)]; exact v1
  · rw [e 13 (by decide), k2 m (Nat.le_refl _)]; exact v2
  · rw [e j (by omega)]; exact s1 j hj
  · rw [e 0 (by decide)]; exact s2
  · rw [e 1 (by decide)]; exact s3
  · rw [e 5 (by decide)]; exact s4
  · rw [e 7 (by decide)]; exact s5
  · rw [e 15 (by decide)]; exact e15
theorem yLay_p {x : Nat} {v : Int32} (h4 : h c < 4) : yLay y h c v = yu (yu y 9 (upd (y 9) (4 * c + h c) v)) 10 (upd (y 10) c (nI (h c + 1))) := if_pos h4
theorem RC.put (H : RC b z y m l h cl) (hl : l < m) (hc : c < 8) (h4 : h c < 4) : RC b (zPut z m l (nI c)) (yLay (yLeave y l) h c (nI l)) m (l + 1) (hUp h c) (cUp cl h c l) := by
  have hP := H.1
  have q := hP.2.2.1 l hl
  have y6 : y 6 l = 0 := q.1.2.2.2.1.trans (q.2.2.2.2.mpr (Nat.le_refl _))
  have hH := hP.fromStore (y' := yLeave y l) hl rfl rfl rfl rfl rfl (fun q hq => pk_un hq) rfl rfl rfl
  have ho : hOk (yLeave y l) h := hP.2.1.of rfl
  have e9 : yLay (yLeave y l) h c (nI l) 9 = upd (yLeave y l 9) (4 * c + h c) (nI l) := by
    unfold yLay
    rw [if_pos h4]
    rfl
  rw [zPut_eq (hP.2.2.2.2.2.2.1 c hc)]
  refine H.mv (hH.put (y' := yLay (yLeave y l) h c (nI l)) hc h4 (yLay_n (by decide) (by decide)) (yLay_n (by decide) (by decide)) (yLay_n (by decide) (by decide)) (yLay_n (by decide) (by decide)) (yLay_n (by decide) (by decide)) ?_ (fun q hq => ?_) ?_ (fun i hi => ?_) (ho.ly h4 _)) (fun j hj => ?_) ?_ ?_ ?_ (fun i hi => ?_)
  · rw [yLay_n (by decide) (by decide)]
    exact pk_us
  · rw [yLay_n (by decide) (by decide)]
  · rw [e9, pk_us]
  · rw [e9, pk_un hi]
  · rw [zset_lo hj, zset_lo hj]
  · rw [yLay_n (by decide) (by decide)]
    rfl
  · rw [yLay_n (by decide) (by decide)]
    rfl
  · rw [yLay_n (by decide) (by decide)]
    rfl
  · rw [yLay_n (by decide) (by decide)]
    show upd (y 6) l 1 i = _ ∨ (upd (y 6) l 1 i ≠ 2 ∧ _)
    by_cases hil : i = l
    · subst hil
      rw [pk_us, y6]
      exact Or.inr ⟨by decide, by decide⟩
    · rw [pk_un hil]
      exact Or.inl rfl
theorem RC.roll {j : Nat} (H : RC b z y m l h cl) (hc : c < 8) (h0 : ¬ h c = 0) (hj : j < 8) (hjc : j ≠ c) (h4 : h j < 4) : RC b (zPut z m (cl c (h c - 1)) (nI j)) (yLay (yLift y h c) (hDn h c) j (nI (cl c (h c - 1)))) m l (hUp (hDn h c) j) (cUp cl (hDn h c) j (cl c (h c - 1))) := by
  have hP := H.1
  have hH := hP.fromTop hc h0
  have hd := hP.2.1.dn hc
  obtain ⟨-, p2, p3, -⟩ := hP.2.2.2.2.1 c hc (h c - 1) (by omega)
  generalize cl c (h c - 1) = p at hH p2 p3 ⊢
  have y6 : y 6 p = 1 := (hP.2.2.1 p p2).1.2.2.2.1.trans p3
  have ej : hDn h c j = h j := hDn_n hjc
  have h4' : hDn h c j < 4 := by omega
  have e9 : yLay (yLift y h c) (hDn h c) j (nI p) 9 = upd (yLift y h c 9) (4 * j + hDn h c j) (nI p) := by
    unfold yLay
    rw [if_pos h4']
    rfl
  rw [zPut_eq (hP.2.2.2.2.2.2.1 j hj), ← ej]
  refine H.mv (hH.put (y' := yLay (yLift y h c) (hDn h c) j (nI p)) hj h4' (yLay_n (by decide) (by decide)) (yLay_n (by decide) (by decide)) (yLay_n (by decide) (by decide)) (yLay_n (by decide) (by decide)) (yLay_n (by decide) (by decide)) ?_ (fun q hq => ?_) ?_ (fun i hi => ?_) (hd.ly h4' _)) (fun j hj => ?_) ?_ ?_ ?_ (fun i hi => ?_)
  · rw [yLay_n (by decide) (by decide), yLift_n (by decide)]
    exact y6
  · rw [yLay_n (by decide) (by decide)]
  · rw [e9, pk_us]
  · rw [e9, pk_un hi]
  · rw [zset_lo hj, zset_lo hj]
  · rw [yLay_n (by decide) (by decide), yLift_n (by decide)]
  · rw [yLay_n (by decide) (by decide), yLift_n (by decide)]
  · rw [yLay_n (by decide) (by decide), yLift_n (by decide)]
  · rw [yLay_n (by decide) (by decide), yLift_n (by decide)]
    exact Or.inl rfl
theorem RC.come {k g v : Int32} (H : RC b z y m l h cl) (hm : m < 24) (hk : pOk k g v) : RC b (zPrz z m k g v) (yCome y m k g v) (m + 1) l h cl := by
  obtain ⟨⟨⟨a1, a2, a3, a4⟩, hh, q1, d, f, g1, g2, g3⟩, ⟨⟨n0, n1, n2, n3, n4, n5, n6⟩, n7⟩, ⟨v1, v2⟩, ⟨s1, s2, s3, s4, s5⟩, e15⟩ := H
  obtain ⟨i0, i1, i2, i3, i4, i5⟩ := zPrz_v (z := z) (m := m) (k := k) (g := g) (v := v)
  obtain ⟨y6, y7⟩ := d m (Nat.le_refl _) hm
  have c3 : yCome y m k g v 3 = upd (y 3) m k := rfl
  have c4 : yCome y m k g v 4 = upd (y 4) m g := rfl
  have c5 : yCome y m k g v 5 = upd (y 5) m v := rfl
  refine ⟨⟨⟨rfl, by omega, a3, by omega⟩, hh.of rfl, fun p hp => ?_, fun p hp hp2 => d p (by omega) hp2, fun x hx j hj => ?_, fun p hp h1 => ?_, fun x hx => ?_, ?_⟩, ⟨⟨?_, ?_, ?_, ?_, ?_, ?_, ?_⟩, fun j hj => ?_⟩, ⟨?_, ?_⟩, ⟨fun j hj => ?_, ?_, ?_, ?_, ?_⟩, ?_⟩
  · by_cases hpm : p = m
    · rw [hpm]
      unfold RQ
      rw [i0, i1, i2, i3, i4, i5, c3, c4, c5, pk_us, pk_us, pk_us]
      exact ⟨⟨rfl, rfl, rfl, y6, y7⟩, hk, Or.inl rfl, fun _ => rfl, fun _ => a4, fun _ => rfl⟩
    · unfold RQ
      rw [zPrz_n (by decide) hpm, zPrz_n (by decide) hpm, zPrz_n (by decide) hpm, zPrz_n (by decide) hpm, zPrz_n (by decide) hpm, zPrz_n (by decide) hpm, c3, c4, c5, pk_un hpm, pk_un hpm, pk_un hpm]
      exact q1 p (by omega)
  · obtain ⟨f1, f2, f3, f4⟩ := f x hx j hj
    rw [zPrz_n (by decide) (by omega), zPrz_n (by decide) (by omega)]
    exact ⟨f1, by omega, f3, f4⟩
  · by_cases hpm : p = m
    · rw [hpm, i3] at h1
      exact absurd h1 (by decide)
    · rw [zPrz_n (by decide) hpm] at h1
      exact g1 p (by omega) h1
  · unfold zCnt
    rw [i3, if_neg (fun w => absurd w.1 (by decide)), zCnt_cg (z := z) fun p hp => ⟨zPrz_n (by decide) (by omega), zPrz_n (by decide) (by omega)⟩]
    exact g2 x hx
  · unfold zMany
    rw [i3, if_neg (by decide), zMany_cg (z := z) fun p hp => zPrz_n (by decide) (by omega)]
    exact g3
  · rw [zPrz_lo (by decide)]; exact n0
  · rw [zPrz_lo (by decide)]; exact n1
  · rw [zPrz_lo (by decide)]; exact n2
  · rw [zPrz_lo (by decide)]; exact n3
  · rw [zPrz_lo (by decide)]; exact n4
  · rw [zPrz_lo (by decide)]; exact n5
  · rw [zPrz_lo (by decide)]; exact n6
  · rw [zPrz_lo (by omega)]; exact n7 j hj
  · rw [zPrz_lo (by decide), v1]
    show _ = nI (yWon (yCome y m k g v) m + if y 6 m = 2 then 1 else 0)
    rw [y6, if_neg (by decide), yWon_cg (y := y) (y' := yCome y m k g v) fun i _ => rfl]
    rfl
  · rw [zPrz_lo (by decide), v2]
    show _ = if y 6 m = 2 then yVal (yCome y m k g v) m + yCome y m k g v 5 m else yVal (yCome y m k g v) m
    rw [y6, if_neg (by decide)]
    exact yVal_sy fun i hi => ⟨rfl, by rw [c5, pk_un (by omega)]⟩
  · rw [zPrz_lo (by omega)]; exact s1 j hj
  · rw [zPrz_lo (by decide)]; exact s2
  · rw [zPrz_lo (by decide)]; exact s3
  · rw [zPrz_lo (by decide)]; exact s4
  · rw [zPrz_lo (by decide)]; exact s5
  · exact pk_us
theorem RC.coins {v : Int32} (H : RC b z y m l h cl) : RC b (upd z 6 (z 6 + v)) (yu y 0 (fl [y 0 0 + v, y 0 1, y 0 2, y 0 3, y 0 4, y 0 5, y 0 6])) m l h cl := by
  obtain ⟨hP, ⟨⟨n0, n1, n2, n3, n4, n5, n6⟩, n7⟩, ⟨v1, v2⟩, ⟨s1, s2, s3, s4, s5⟩, e15⟩ := H
  have lo : ∀ j, j ≠ 6 → upd z 6 (z 6 + v) j = z j := fun j h1 => pk_un h1
  refine ⟨hP.eq (fun p j _ hj => lo _ (by omega)) (fun i h2 h10 k hk => ?_), ⟨⟨?_, ?_, ?_, ?_, ?_, ?_, ?_⟩, fun j hj => ?_⟩, ⟨?_, ?_⟩, ⟨fun j hj => ?_, ?_, ?_, ?_, ?_⟩, ?_⟩
  · rw [yu_n (by omega)]
  · show y 0 0 + v = _
    rw [pk_us, n0]
  · rw [lo _ (by decide)]; exact n1
  · rw [lo _ (by decide)]; exact n2
  · rw [lo _ (by decide)]; exact n3
  · rw [lo _ (by decide)]; exact n4
  · rw [lo _ (by decide)]; exact n5
  · rw [lo _ (by decide)]; exact n6
  · rw [lo _ (by omega)]; exact n7 j hj
  · rw [lo _ (by decide)]; exact v1.trans (congrArg nI (yWon_sy fun i _ => rfl))
  · rw [lo _ (by decide)]; exact v2.trans (yVal_sy fun i _ => ⟨rfl, rfl⟩)
  · rw [lo _ (by omega)]; exact s1 j hj
  · rw [lo _ (by decide)]; exact s2
  · rw [lo _ (by decide)]; exact s3
  · rw [lo _ (by decide)]; exact s4
  · rw [lo _ (by decide)]; exact s5
  · rw [lo _ (by decide)]; exact e15
theorem vbnd {v : Int32} {n : Nat} (hn : n < 2147483648) (h1 : 1 ≤ v) (h2 : v ≤ nI n) : ∃ a, v = nI a ∧ 1 ≤ a ∧ a ≤ n := by
  obtain ⟨a, ha, rfl⟩ := nI_of3 hn (Int32.le_trans (by decide) h1) h2
  exact ⟨a, rfl, (nI_leI (a := 1) (by decide) (by omega)).mp h1, ha⟩
theorem RS.set {k : Nat} {v : Int32} (H : RS b z) (hk : k < 6) (hv : vOk (nI k) v) : RS b (upd z k v) := by
  obtain ⟨s1, s2, s3, s4, s5⟩ := H
  have e7 : upd z k v 7 = z 7 := pk_un (by omega)
  have ge : ∀ w : Int32, 1 ≤ w → ¬ w < 0 := fun w hw q => absurd (Int32.lt_of_lt_of_le q (Int32.le_trans (by decide) hw)) Int32.lt_irrefl
  have ge0 : ∀ w : Int32, 0 ≤ w → ¬ w < 0 := fun w hw => Int32.not_lt.mpr hw
  have k6 : k = 0 ∨ k = 1 ∨ k = 2 ∨ k = 3 ∨ k = 4 ∨ k = 5 := by omega
  have hv0 : ¬ v < 0 := by
    rcases hv with ⟨-, q, -⟩ | ⟨-, q, -⟩ | ⟨-, q, -⟩ | ⟨-, q, -⟩ | ⟨-, q, -⟩ | ⟨-, q, -⟩
    · exact ge _ q
    · exact ge _ q
    · exact ge _ q
    · exact ge _ q
    · exact ge0 _ q
    · exact ge0 _ q
  have at1 : ∀ j, j < 6 → nI k = nI j → k = j := fun j hj e => (nI_eq (by omega) (by omega)).mp e
  refine ⟨fun j hj => ?_, ?_, ?_, ?_, by rw [e7]; exact s5⟩
  · by_cases q : j = k
    · rw [q, pk_us]; exact hv0
    · rw [pk_un q]; exact s1 j hj
  · by_cases q : k = 0
    · subst q
      rw [pk_us]
      rcases hv with ⟨-, q1, q2⟩ | ⟨e, -⟩ | ⟨e, -⟩ | ⟨e, -⟩ | ⟨e, -⟩ | ⟨e, -⟩
      · exact vbnd (n := 9) (by decide) q1 q2
      · exact absurd e (by decide)
      · exact absurd e (by decide)
      · exact absurd e (by decide)
      · exact absurd e (by decide)
      · exact absurd e (by decide)
    · rw [pk_un (by omega)]; exact s2
  · by_cases q : k = 1
    · subst q
      rw [pk_us]
      rcases hv with ⟨e, -⟩ | ⟨-, q1, q2⟩ | ⟨e, -⟩ | ⟨e, -⟩ | ⟨e, -⟩ | ⟨e, -⟩
      · exact absurd e (by decide)
      · obtain ⟨a, e, -, e3⟩ := vbnd (n := 200) (by decide) q1 q2
        exact ⟨a, e, e3⟩
      · exact absurd e (by decide)
      · exact absurd e (by decide)
      · exact absurd e (by decide)
      · exact absurd e (by decide)
    · rw [pk_un (by omega)]; exact s3
  · by_cases q : k = 5
    · subst q
      rw [pk_us]
      rcases hv with ⟨e, -⟩ | ⟨e, -⟩ | ⟨e, -⟩ | ⟨e, -⟩ | ⟨e, -⟩ | ⟨-, q1, q2⟩
      · exact absurd e (by decide)
      · exact absurd e (by decide)
      · exact absurd e (by decide)
      · exact absurd e (by decide)
      · exact absurd e (by decide)
      · obtain ⟨a, ha, e⟩ := nI_of3 (n := 8) (by decide) q1 q2
        exact ⟨a, e, ha⟩
    · rw [pk_un (by omega)]; exact s4
theorem RC.set {k : Nat} {v : Int32} (H : RC b z y m l h cl) (hk : k < 6) (hv : vOk (nI k) v) : RC b (upd z k v) (yu y 1 (upd (y 1) k v)) m l h cl := by
  obtain ⟨hP, ⟨⟨n0, n1, n2, n3, n4, n5, n6⟩, n7⟩, ⟨v1, v2⟩, hS, e15⟩ := H
  have lo : ∀ j, 6 ≤ j → upd z k v j = z j := fun j h1 => pk_un (by omega)
  refine ⟨hP.eq (fun p j _ hj => lo _ (by omega)) (fun i h2 h10 k hk => ?_), ⟨⟨?_, ?_, ?_, ?_, ?_, ?_, ?_⟩, fun j hj => ?_⟩, ⟨?_, ?_⟩, hS.set hk hv, ?_⟩
  · rw [yu_n (by omega)]
  · rw [lo _ (by decide)]; exact n0
  · rw [lo _ (by decide)]; exact n1
  · rw [lo _ (by decide)]; exact n2
  · rw [lo _ (by decide)]; exact n3
  · rw [lo _ (by decide)]; exact n4
  · rw [lo _ (by decide)]; exact n5
  · rw [lo _ (by decide)]; exact n6
  · show upd (y 1) k v j = _
    by_cases q : j = k
    · rw [q, pk_us, pk_us]
    · rw [pk_un q, pk_un q]; exact n7 j hj
  · rw [lo _ (by decide)]; exact v1.trans (congrArg nI (yWon_sy fun i _ => rfl))
  · rw [lo _ (by decide)]; exact v2.trans (yVal_sy fun i _ => ⟨rfl, rfl⟩)
  · rw [lo _ (by decide)]; exact e15
end R4
