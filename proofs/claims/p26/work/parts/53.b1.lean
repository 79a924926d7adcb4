/-! a state as the law meets it, and what its calls do to it -/
def FS0 : Nat → Int32 := fl [2, 20, 12, 45, 3, 2]
def LS0 : Nat → Int32 := fl [1, 1, 1, 1, 0, 0]
def MS0 : Nat → Int32 := fl [9, 200, 60, 99, 9, 8]
def GK (n : Nat) (y : Yy) (m l tt ss : Nat) (h : Nat → Nat) (cl : Nat → Nat → Nat) : Prop := (∃ b z, RR b z y m l tt ss h cl) ∧ AC n y m ∧ (y 0 3 ≠ 0 → 0 < ss)
theorem vOk_ls {j : Nat} {v : Int32} (hj : j < 6) : vOk (nI j) v ↔ (LS0 j ≤ v ∧ v ≤ MS0 j) := by
  have k6 : j = 0 ∨ j = 1 ∨ j = 2 ∨ j = 3 ∨ j = 4 ∨ j = 5 := by omega
  rcases k6 with rfl | rfl | rfl | rfl | rfl | rfl
  · refine ⟨fun w => ?_, fun w => Or.inl ⟨nI_0, w⟩⟩
    rcases w with ⟨e, w⟩ | ⟨e, w⟩ | ⟨e, w⟩ | ⟨e, w⟩ | ⟨e, w⟩ | ⟨e, w⟩ <;> first | exact w | exact absurd e (by decide)
  · refine ⟨fun w => ?_, fun w => Or.inr (Or.inl ⟨rfl, w⟩)⟩
    rcases w with ⟨e, w⟩ | ⟨e, w⟩ | ⟨e, w⟩ | ⟨e, w⟩ | ⟨e, w⟩ | ⟨e, w⟩ <;> first | exact w | exact absurd e (by decide)
  · refine ⟨fun w => ?_, fun w => Or.inr (Or.inr (Or.inl ⟨rfl, w⟩))⟩
    rcases w with ⟨e, w⟩ | ⟨e, w⟩ | ⟨e, w⟩ | ⟨e, w⟩ | ⟨e, w⟩ | ⟨e, w⟩ <;> first | exact w | exact absurd e (by decide)
  · refine ⟨fun w => ?_, fun w => Or.inr (Or.inr (Or.inr (Or.inl ⟨rfl, w⟩)))⟩
    rcases w with ⟨e, w⟩ | ⟨e, w⟩ | ⟨e, w⟩ | ⟨e, w⟩ | ⟨e, w⟩ | ⟨e, w⟩ <;> first | exact w | exact absurd e (by decide)
  · refine ⟨fun w => ?_, fun w => Or.inr (Or.inr (Or.inr (Or.inr (Or.inl ⟨rfl, w⟩))))⟩
    rcases w with ⟨e, w⟩ | ⟨e, w⟩ | ⟨e, w⟩ | ⟨e, w⟩ | ⟨e, w⟩ | ⟨e, w⟩ <;> first | exact w | exact absurd e (by decide)
  · refine ⟨fun w => ?_, fun w => Or.inr (Or.inr (Or.inr (Or.inr (Or.inr ⟨rfl, w⟩))))⟩
    rcases w with ⟨e, w⟩ | ⟨e, w⟩ | ⟨e, w⟩ | ⟨e, w⟩ | ⟨e, w⟩ | ⟨e, w⟩ <;> first | exact w | exact absurd e (by decide)
theorem c78 {v : Int32} : (0 ≤ v ∧ v ≤ 7) ↔ (0 ≤ v ∧ v < 8) := by
  rw [Int32.le_iff_toInt_le, Int32.le_iff_toInt_le, Int32.lt_iff_toInt_lt, show (7 : Int32).toInt = 7 from rfl, show (8 : Int32).toInt = 8 from rfl]
  omega
section B1
variable {y y' : Yy} {n m l tt ss c : Nat} {h : Nat → Nat} {cl : Nat → Nat → Nat}
theorem GK.ky (g : GK n y m l tt ss h cl) : KY y m l tt ss h cl := by
  obtain ⟨⟨b, z, R⟩, -⟩ := g
  exact R.ky
theorem GK.eq (g : GK n y m l tt ss h cl) (e : yEq y' y) : GK n y' m l tt ss h cl := by
  have km := g.ky.1.2.1
  obtain ⟨⟨b, z, R⟩, A⟩ := g
  exact ⟨⟨b, z, R.eq (fun _ _ => rfl) e⟩, A.1.eq km e, fun q => A.2 (by rw [← e 0 (by decide) 3 (by decide)]; exact q)⟩
theorem GK.up {n' : Nat} (g : GK n y m l tt ss h cl) (hn : n ≤ n') : GK n' y m l tt ss h cl := ⟨g.1, g.2.1.up hn, g.2.2⟩
theorem GK.set1 (g : GK n y m l tt ss h cl) : (∃ a, y 1 0 = nI a ∧ 1 ≤ a ∧ a ≤ 9) ∧ (∃ d, y 1 1 = nI d ∧ d ≤ 200) ∧ (∃ q, y 1 5 = nI q ∧ q ≤ 8) ∧ ∀ j, j < 6 → ¬ y 1 j < 0 := by
  obtain ⟨⟨b, z, R⟩, A⟩ := g
  obtain ⟨⟨-, hn⟩, -, ⟨s1, ⟨a, sa, sa2⟩, ⟨d, sd, sd2⟩, ⟨q, sq, sq2⟩, -⟩, -⟩ := R.1.2
  exact ⟨⟨a, (hn 0 (by decide)).trans sa, sa2⟩, ⟨d, (hn 1 (by decide)).trans sd, sd2⟩, ⟨q, (hn 5 (by decide)).trans sq, sq2⟩, fun j hj => by rw [hn j hj]; exact s1 j hj⟩
theorem GK.set (g : GK n y m l tt ss h cl) {j : Nat} {v : Int32} (hj : j < 6) (hv : LS0 j ≤ v ∧ v ≤ MS0 j) : GK n (yu y 1 (upd (y 1) j v)) m l tt ss h cl := by
  obtain ⟨⟨b, z, R⟩, ⟨cr, du, pa, pl, fp, sl, A, hn⟩, hb⟩ := g
  exact ⟨⟨b, _, ⟨R.1.set hj ((vOk_ls hj).mpr hv), R.2.cg (fun j h1 _ => pk_un (by omega)) (r1112 rfl rfl)⟩⟩, ⟨cr, du, pa, pl, fp, sl, A.cg (fun _ _ => rfl) (fun _ _ => rfl) (fun _ _ => rfl), hn⟩, hb⟩
theorem GK.come (g : GK n y m l tt ss h cl) {a b e : Int32} (hm : m < 24) (hk : pOk a b e) : GK n (yCome y m a b e) (m + 1) l tt ss h cl := by
  obtain ⟨⟨b, z, R⟩, ⟨cr, du, pa, pl, fp, sl, A, hn⟩, hb⟩ := g
  obtain ⟨k6, k7⟩ := R.1.1.2.2.2.1 m (Nat.le_refl _) hm
  refine ⟨⟨b, _, ⟨R.1.come hm hk, R.2.cg (fun j h1 _ => ?_) (r1112 rfl rfl)⟩⟩, ⟨cr, du, pa, pl, fp, sl, A.come rfl rfl rfl k6 k7, hn⟩, hb⟩
  unfold zPrz zTake
  rw [pk_un (by omega), zs_n hm (by decide) (Or.inr h1), zs_n hm (by decide) (Or.inr h1), zs_n hm (by decide) (Or.inr h1), zs_n hm (by decide) (Or.inr h1), zs_n hm (by decide) (Or.inr h1), zs_n hm (by decide) (Or.inr h1)]
theorem GK.add (g : GK n y m l tt ss h cl) (hl : l < m) (h8 : c < 8) (h4 : h c < 4) : GK n (yLay (yLeave y l) h c (nI l)) m (l + 1) tt ss (hUp h c) (cUp cl h c l) := by
  have h24 := g.ky.1.2.1
  obtain ⟨⟨b, z, R⟩, ⟨cr, du, pa, pl, fp, sl, A, hn⟩, hb⟩ := g
  have e0 : yLay (yLeave y l) h c (nI l) 0 = y 0 := (yLay_n (by decide) (by decide)).trans rfl
  have e7 : yLay (yLeave y l) h c (nI l) 7 = y 7 := (yLay_n (by decide) (by decide)).trans rfl
  have e6 : yLay (yLeave y l) h c (nI l) 6 = upd (y 6) l 1 := (yLay_n (by decide) (by decide)).trans rfl
  refine ⟨⟨b, _, ⟨R.1.put hl h8 h4, R.2.cg (fun j h1 _ => zPut_hi (by omega) h1) (r1112 ?_ ?_)⟩⟩, ⟨cr, du, pa, pl, fp, sl, A.mv (fun j _ => by rw [e0]) (fun i hi => ?_) (fun i _ => by rw [e7]), hn⟩, fun q => hb (by rw [← congrFun e0 3]; exact q)⟩
  · rw [yLay_n (by decide) (by decide)]
    rfl
  · rw [yLay_n (by decide) (by decide)]
    rfl
  · rw [e6]
    by_cases e : i = l
    · rw [e, pk_us, R.st0 l (Nat.le_refl _) hl]
      exact Or.inr ⟨rfl, by decide⟩
    · rw [pk_un e]
      exact Or.inl rfl
theorem GK.coins (g : GK n y m l tt ss h cl) {v : Int32} (hv : 1 ≤ v ∧ v ≤ 99) (h9 : ¬ 999 < y 0 0 + v) : GK n (yu y 0 (fl [y 0 0 + v, y 0 1, y 0 2, y 0 3, y 0 4, y 0 5, y 0 6])) m l tt ss h cl := by
  obtain ⟨⟨b, z, R⟩, ⟨cr, du, pa, pl, fp, sl, A, hn⟩, hb⟩ := g
  obtain ⟨j, hj, rfl⟩ := nI_of3 (n := 99) (by decide) (Int32.le_trans (by decide) hv.1) hv.2
  have hc : cr + j ≤ 999 := by
    rw [A.1.1, nI_add] at h9
    rcases Nat.lt_or_ge 999 (cr + j) with x | x
    · exact absurd (nI_lt x (by have := A.2.1.1; omega)) h9
    · exact x
  exact ⟨⟨b, _, ⟨R.1.coins, R.2.cg (fun j h1 _ => pk_un (by omega)) (r1112 rfl rfl)⟩⟩, ⟨_, du, pa, pl, fp, sl, A.coins hc, hn⟩, hb⟩
end B1
def LB (L : Nat) (xs : Zz) (w : Wd) (y yp : Yy) (s t : Nat) (sl : Nat → Yy) (sv : Nat → Int32) : Prop := ∃ hs P pd, CW w y hs sl sv P pd (nI s) (nI t) ∧ CS w FS0 LS0 MS0 ∧ w 1000 = ar 4 L xs ∧ P 0 = nI 0 ∧ t < 7 ∧ s ≤ 6 ∧ yEq (hs ((t + 6) % 7)) yp
section B2
variable {G : Gx} {d L s t n m l tt ss : Nat} {xs : Zz} {w w' : Wd} {y y' yp yb : Yy} {hs sl : Nat → Yy} {sv P P' pd : Nat → Int32} {h : Nat → Nat} {cl : Nat → Nat → Nat} {Q : Option Value → Wd → Prop}
theorem LB.a0 (b : LB L xs w y yp s t sl sv) : w 0 = ccO := by
  obtain ⟨hs, P, pd, hW, -⟩ := b
  exact hW.1.1
theorem LB.x0 (b : LB L xs w y yp s t sl sv) : w 1000 = ar 4 L xs := by
  obtain ⟨hs, P, pd, -, -, hx, -⟩ := b
  exact hx
theorem LB.s6 (b : LB L xs w y yp s t sl sv) : s ≤ 6 := by
  obtain ⟨hs, P, pd, -, -, -, -, -, h, -⟩ := b
  exact h
theorem LB.rf (hS : CS w FS0 LS0 MS0) (hx : w 1000 = ar 4 L xs) (hP : P 0 = nI 0) (t7 : t < 7) (s6 : s ≤ 6) (hE : yEq (hs ((t + 6) % 7)) yp) (hW : CW w' y (sq hs t yb) sl sv P pd (nI s) (nI t)) (hF : FC w w') : LB L xs w' y yp s t sl sv :=
  ⟨_, P, pd, hW, hS.fr hF, (hF _ (by omega)).trans hx, hP, t7, s6, by rw [show sq hs t yb ((t + 6) % 7) = hs ((t + 6) % 7) from if_neg (by omega)]; exact hE⟩
theorem nS6_le {s : Nat} : nS6 s ≤ 6 := by
  unfold nS6
  split <;> omega
theorem LB.ac (hS : CS w FS0 LS0 MS0) (hx : w 1000 = ar 4 L xs) (hP : P 0 = nI 0) (t7 : t < 7) (hE : yEq yb y) (hW : CW w' y' (sq hs t yb) sl sv P pd (nI (nS6 s)) (nI ((t + 1) % 7))) (hF : FC w w') : LB L xs w' y' y (nS6 s) ((t + 1) % 7) sl sv :=
  ⟨_, P, pd, hW, hS.fr hF, (hF _ (by omega)).trans hx, hP, Nat.mod_lt _ (by decide), nS6_le, by rw [show ((t + 1) % 7 + 6) % 7 = t by omega, show sq hs t yb t = yb from if_pos rfl]; exact hE⟩
theorem X_set (b : LB L xs w y yp s t sl sv) (g : GK n y m l tt ss h cl) {i v : Int32}
    (hQ0 : (∀ j, j < 6 → i = nI j → ¬ (LS0 j ≤ v ∧ v ≤ MS0 j)) → ∀ w', LB L xs w' y yp s t sl sv → Q (some (.int (-2))) w')
    (hQ : ∀ j, j < 6 → i = nI j → (LS0 j ≤ v ∧ v ≤ MS0 j) → ∀ w', LB L xs w' (yu y 1 (upd (y 1) j v)) y (nS6 s) ((t + 1) % 7) sl sv → Q (some (.int (y 1 j))) w') : T G (d + 4) 0 63 [.ref 0, .int i, .int v] 137 w Q := by
  obtain ⟨hs, P, pd, hW, hS, hx, hP, t7, s6, hE⟩ := b
  exact C_set hW hS t7 s6 g.set1.2.2.2 (fun hn w1 yb hb hW1 hF1 => hQ0 hn _ (LB.rf hS hx hP t7 s6 hE hW1 hF1)) (fun j hj e hok w1 yb hb hW1 hF1 => hQ j hj e hok _ (LB.ac hS hx hP t7 hb hW1 hF1))
theorem X_prize (b : LB L xs w y yp s t sl sv) (g : GK n y m l tt ss h cl) {a k e : Int32}
    (hQ0 : ¬ pOk a k e → ∀ w', LB L xs w' y yp s t sl sv → Q (some (.int (-2))) w') (hQ1 : pOk a k e → m = 24 → ∀ w', LB L xs w' y yp s t sl sv → Q (some (.int (-4))) w')
    (hQ : pOk a k e → m < 24 → ∀ w', LB L xs w' (yCome y m a k e) y (nS6 s) ((t + 1) % 7) sl sv → Q (some (.int (nI m))) w') : T G (d + 4) 0 64 [.ref 0, .int a, .int k, .int e] 137 w Q := by
  obtain ⟨hs, P, pd, hW, hS, hx, hP, t7, s6, hE⟩ := b
  refine C_prize hW g.ky.1.1 g.ky.1.2.1 t7 s6 (fun x hx2 h0 w1 yb hb hW1 hF1 => ?_) (fun hok hm w1 yb hb hW1 hF1 => hQ hok hm _ (LB.ac hS hx hP t7 hb hW1 hF1))
  rcases hx2 with ⟨h1, rfl⟩ | ⟨h1, h2, rfl⟩ | ⟨-, -, rfl⟩
  · exact hQ0 h1 _ (LB.rf hS hx hP t7 s6 hE hW1 hF1)
  · exact hQ1 h1 h2 _ (LB.rf hS hx hP t7 s6 hE hW1 hF1)
  · exact absurd rfl h0
theorem X_add (b : LB L xs w y yp s t sl sv) (g : GK n y m l tt ss h cl) {v : Int32}
    (hQ0 : ¬ (0 ≤ v ∧ v < 8) → ∀ w', LB L xs w' y yp s t sl sv → Q (some (.int (-1))) w') (hQ1 : (0 ≤ v ∧ v < 8) → ¬ l < m → ∀ w', LB L xs w' y yp s t sl sv → Q (some (.int (-5))) w') (hQ2 : ∀ c, c < 8 → v = nI c → l < m → ¬ h c < 4 → ∀ w', LB L xs w' y yp s t sl sv → Q (some (.int (-4))) w')
    (hQ : ∀ c, c < 8 → v = nI c → l < m → h c < 4 → ∀ w', LB L xs w' (yLay (yLeave y l) h c (nI l)) y (nS6 s) ((t + 1) % 7) sl sv → Q (some (.int (nI l))) w') : T G (d + 4) 0 65 [.ref 0, .int v] 137 w Q := by
  obtain ⟨hs, P, pd, hW, hS, hx, hP, t7, s6, hE⟩ := b
  refine C_add hW g.ky t7 s6 (fun x hx2 w1 yb hb hW1 hF1 => ?_) (fun c hc e1 e2 e3 w1 yb hb hW1 hF1 => hQ c hc e1 e2 e3 _ (LB.ac hS hx hP t7 hb hW1 hF1))
  rcases hx2 with ⟨h1, rfl⟩ | ⟨h1, h2, rfl⟩ | ⟨⟨c, h1, h2, h3, h4⟩, rfl⟩
  · exact hQ0 h1 _ (LB.rf hS hx hP t7 s6 hE hW1 hF1)
  · exact hQ1 h1 h2 _ (LB.rf hS hx hP t7 s6 hE hW1 hF1)
  · exact hQ2 c h1 h2 h3 h4 _ (LB.rf hS hx hP t7 s6 hE hW1 hF1)
theorem X_coins (b : LB L xs w y yp s t sl sv) (g : GK n y m l tt ss h cl) {v : Int32}
    (hQ0 : ¬ (1 ≤ v ∧ v ≤ 99) → ∀ w', LB L xs w' y yp s t sl sv → Q (some (.int (-2))) w') (hQ1 : (1 ≤ v ∧ v ≤ 99) → 999 < y 0 0 + v → ∀ w', LB L xs w' y yp s t sl sv → Q (some (.int (-4))) w')
    (hQ : (1 ≤ v ∧ v ≤ 99) → ¬ 999 < y 0 0 + v → ∀ w', LB L xs w' (yu y 0 (fl [y 0 0 + v, y 0 1, y 0 2, y 0 3, y 0 4, y 0 5, y 0 6])) y (nS6 s) ((t + 1) % 7) sl sv → Q (some (.int (y 0 0 + v))) w') : T G (d + 4) 0 66 [.ref 0, .int v] 137 w Q := by
  obtain ⟨hs, P, pd, hW, hS, hx, hP, t7, s6, hE⟩ := b
  obtain ⟨cr, du, pa, pl, fp, sl', A, -⟩ := g.2.1
  refine C_coins hW t7 s6 (fun hv h9 => ?_) (fun x hx2 w1 yb hb hW1 hF1 => ?_) (fun e1 e2 w1 yb hb hW1 hF1 => hQ e1 e2 _ (LB.ac hS hx hP t7 hb hW1 hF1))
  · obtain ⟨j, hj, rfl⟩ := nI_of3 (n := 99) (by decide) (Int32.le_trans (by decide) hv.1) hv.2
    rw [A.1.1, nI_add]
    exact nI_pos (by have := A.2.1.1; omega)
  · rcases hx2 with ⟨h1, rfl⟩ | ⟨h1, h2, rfl⟩
    · exact hQ0 h1 _ (LB.rf hS hx hP t7 s6 hE hW1 hF1)
    · exact hQ1 h1 h2 _ (LB.rf hS hx hP t7 s6 hE hW1 hF1)
theorem X_play {q : Nat} (b : LB L xs w y yp s t sl sv) (g : GK n y m l tt ss h cl) (hq : y 1 5 = nI q) (hq8 : q ≤ 8) {v aim : Int32}
    (hQ0 : ¬ eAim v aim = 0 → ∀ w', LB L xs w' y yp s t sl sv → Q (some (.int (eAim v aim))) w') (hQ1 : eAim v aim = 0 → y 0 0 < y 1 0 → ∀ w', LB L xs w' y yp s t sl sv → Q (some (.int (-5))) w')
    (hQ : ∀ c, c < 8 → v = nI c → 0 ≤ aim ∧ aim ≤ 4 → ¬ y 0 0 < y 1 0 → ∀ w', LB L xs w' (yPull y m l tt ss h cl q c aim) y (nS6 s) ((t + 1) % 7) sl sv → Q (some (.int (if yOut y h cl c aim = 2 then 1 else yOut y h cl c aim))) w') : T G (d + 6) 0 67 [.ref 0, .int v, .int aim] 137 w Q := by
  obtain ⟨hs, P, pd, hW, hS, hx, hP, t7, s6, hE⟩ := b
  refine C_play hW g.ky hq hq8 t7 s6 (fun x hx2 w1 yb hb hW1 hF1 => ?_) (fun c hc e1 e2 e3 w1 yb hb hW1 hF1 => hQ c hc e1 e2 e3 _ (LB.ac hS hx hP t7 hb hW1 hF1))
  rcases hx2 with ⟨h1, rfl⟩ | ⟨h1, h2, rfl⟩
  · exact hQ0 h1 _ (LB.rf hS hx hP t7 s6 hE hW1 hF1)
  · exact hQ1 h1 h2 _ (LB.rf hS hx hP t7 s6 hE hW1 hF1)
theorem X_of (b : LB L xs w y yp s t sl sv) (g : GK n y m l tt ss h cl) {p k : Int32} (hQ0 : (∀ i, i < m → p ≠ nI i) → Q (some (.int (-1))) w) (hQ1 : ∀ i, i < m → p = nI i → ¬ (0 ≤ k ∧ k ≤ 5) → Q (some (.int (-2))) w) (hQ : ∀ i j, i < m → p = nI i → j < 6 → k = nI j → Q (some (.int (yOf y h i j))) w) : T G (d + 3) 0 69 [.ref 0, .int p, .int k] 137 w Q := by
  obtain ⟨hs, P, pd, hW, -⟩ := b
  exact C_of hW g.ky hQ0 hQ1 hQ
theorem X_at (b : LB L xs w y yp s t sl sv) (g : GK n y m l tt ss h cl) {v k : Int32} (hQ0 : ¬ (0 ≤ v ∧ v < 8) → Q (some (.int (-1))) w) (hQ : ∀ c, c < 8 → v = nI c → Q (some (.int (yAt y h c k))) w) : T G (d + 2) 0 70 [.ref 0, .int v, .int k] 137 w Q := by
  obtain ⟨hs, P, pd, hW, -⟩ := b
  exact C_at hW g.ky hQ0 hQ
theorem X_book (b : LB L xs w y yp s t sl sv) (g : GK n y m l tt ss h cl) {r k : Int32} (hQ0 : (∀ i, i < ss → r ≠ nI i) → Q (some (.int (-1))) w) (hQ1 : ∀ i, i < ss → r = nI i → ¬ (0 ≤ k ∧ k ≤ 3) → Q (some (.int (-2))) w) (hQ : ∀ i j, i < ss → r = nI i → j < 4 → k = nI j → Q (some (.int (bk y tt i j))) w) : T G (d + 2) 0 71 [.ref 0, .int r, .int k] 137 w Q := by
  obtain ⟨hs, P, pd, hW, -⟩ := b
  exact C_book hW g.ky hQ0 hQ1 hQ
theorem X_byValue (b : LB L xs w y yp s t sl sv) (g : GK n y m l tt ss h cl) {v : Int32} (hQ : Q (some (.int (yBv y m v m 0))) w) : T G (d + 4) 0 72 [.ref 0, .int v] 137 w Q := by
  obtain ⟨hs, P, pd, hW, -⟩ := b
  exact C_byValue hW g.ky hQ
theorem X_lighter (b : LB L xs w y yp s t sl sv) (g : GK n y m l tt ss h cl) {v : Int32} (hQ0 : v < 0 → Q (some (.int (-2))) w) (hQ : ¬ v < 0 → Q (some (.int (nI (yUp y v m)))) w) : T G (d + 2) 0 73 [.ref 0, .int v] 137 w Q := by
  obtain ⟨hs, P, pd, hW, -⟩ := b
  exact C_lighter hW g.ky hQ0 hQ
theorem X_ifPlayed (b : LB L xs w y yp s t sl sv) (g : GK n y m l tt ss h cl) {v a : Int32} (hQ0 : ¬ eAim v a = 0 → Q (some (.int (eAim v a))) w) (hQ : eAim v a = 0 → ∀ x, Q (some (.int x)) w) : T G (d + 4) 0 75 [.ref 0, .int v, .int a] 137 w Q := by
  obtain ⟨hs, P, pd, hW, -⟩ := b
  refine C_ifPlayed hW g.ky hQ0 (fun c hc e1 e2 => hQ ?_ _)
  unfold eAim
  rw [e1, if_pos ⟨nI_pos' (by omega), nI_lt (b := 8) hc (by omega)⟩, if_pos e2]
theorem X_load (b : LB L xs w y yp s t sl sv) (g : GK n y m l tt ss h cl) {v a : Int32} (hQ0 : ¬ eAim v a = 0 → Q (some (.int (eAim v a))) w) (hQ : ∀ c, c < 8 → v = nI c → (0 ≤ a ∧ a ≤ 4) → Q (some (.int (if h c = 0 then -6 else yLoad y h c (cl c (h c - 1)) a))) w) : T G (d + 3) 0 76 [.ref 0, .int v, .int a] 137 w Q := by
  obtain ⟨hs, P, pd, hW, -⟩ := b
  refine C_load hW g.ky hQ0 (fun c hc e1 e2 h0 => ?_) (fun c hc e1 e2 h0 => ?_)
  · have := hQ c hc e1 e2
    rwa [if_pos h0] at this
  · have := hQ c hc e1 e2
    rwa [if_neg h0] at this
theorem X_count (b : LB L xs w y yp s t sl sv) (g : GK n y m l tt ss h cl) {v : Int32} (hQ : Q (some (.int (yCount y m h (nI 0) (nI s) v))) w) : T G (d + 3) 0 74 [.ref 0, .int v] 137 w Q := by
  obtain ⟨hs, P, pd, hW, hS, hx, hP, -⟩ := b
  rw [← hP] at hQ
  exact C_count hW g.ky hQ
theorem X_costs (b : LB L xs w y yp s t sl sv) (g : GK n y m l tt ss h cl) {N a : Nat} (ha : y 1 0 = nI a) (ha1 : 1 ≤ a) (ha9 : a ≤ 9) (hN : N < 100000) (hN1 : ∀ n, n < N → y 0 1 + nI (n + 1) * y 1 0 < y 1 1) (hN2 : ¬ y 0 1 + nI (N + 1) * y 1 0 < y 1 1) {v : Int32} (hv : ¬ (0 ≤ v ∧ v < 8)) (hQ0 : Q (some (.int (-1))) w) : T G (d + 5) 0 78 [.ref 0, .int v] 137 w Q := by
  obtain ⟨hs, P, pd, hW, -⟩ := b
  exact C_costs hW g.ky ha ha1 ha9 hN hN1 hN2 (fun _ => hQ0) (fun c hc e => absurd (by rw [e]; exact ⟨nI_pos' (by omega), nI_lt (b := 8) hc (by omega)⟩) hv) (fun c hc e => absurd (by rw [e]; exact ⟨nI_pos' (by omega), nI_lt (b := 8) hc (by omega)⟩) hv)
theorem X_wipe (b : LB L xs w y yp s t sl sv) (hQ : ∀ w', LB L xs w' y yp s t sl sv → Q (some (.int 0)) w') : T G (d + 1) 0 79 [.ref 0] 137 w Q := by
  obtain ⟨hs, P, pd, hW, hS, hx, hP, t7, s6, hE⟩ := b
  refine C_wipe hW (fun w1 P1 hP1 hW1 hF1 => ?_)
  rw [hP, nI_0]
  exact hQ _ ⟨hs, P1, pd, hW1, hS.fr hF1, (hF1 _ (by omega)).trans hx, hP1.trans nI_0.symm, t7, s6, hE⟩
theorem ff_0 {pd : Nat → Int32} : ffL pd 0 81 0 = nI 0 := by
  have h0 : ∀ k, hr pd 0 k = 0 := fun k => if_neg (Nat.not_lt_zero _)
  have e : (nxR pd 0 (0, false) 0 0 0) = ((0, 0, 0, 0), 0, true) := by
    unfold nxR nx0
    rw [if_neg (Nat.lt_irrefl _), h0, if_neg (by decide), if_neg (by decide), if_neg (by decide), if_neg (by decide)]
  show (if (nxR pd 0 (0, false) 0 0 0).2.2 = false then _ else nI (nxR pd 0 (0, false) 0 0 0).2.1) = _
  rw [e, if_neg (by decide)]
theorem X_fault (b : LB L xs w y yp s t sl sv) (hQ : ∀ w', LB L xs w' y yp s t sl sv → Q (some (.int 0)) w') : T G (d + 7) 0 80 [.ref 0] 137 w Q := by
  obtain ⟨hs, P, pd, hW, hS, hx, hP, t7, s6, hE⟩ := b
  refine C_fault hW hP (by decide) (fun w1 P1 hP1 hW1 hF1 => ?_)
  rw [ff_0, nI_0]
  exact hQ _ ⟨hs, P1, pd, hW1, hS.fr hF1, (hF1 _ (by omega)).trans hx, hP1, t7, s6, hE⟩
theorem X_carryOut (b : LB L xs w y yp s t sl sv) (hQ : ∀ w', LB L xs w' y yp s t sl sv → Q (some (.int (-3))) w') : T G (d + 7) 0 81 [.ref 0] 137 w Q := by
  obtain ⟨hs, P, pd, hW, hS, hx, hP, t7, s6, hE⟩ := b
  refine T_of false hm_81 (by decide +kernel) rfl (Nat.le_of_ble_eq_true rfl) (by decide) (fun q => by cases q) ?_
  intro J hJ
  obtain ⟨⟨a1, a2, a3, a4, a5, a6⟩, -⟩ := id hW
  refine go_ok hJ (fun _ => false) 60 ?_
  simp -implicitDefEqProofs only [E_81, s_aload_n, (s_getf rF_6_34), ft_6_4, fn_6_4, s_invokevirtual, rM_6_198, iv5_1, hc_27, s_bipush, s_icmp_eq, s_ireturn, (s_getf rF_6_27), ft_6_3, fn_6_3, (s_getf rF_6_10), ft_6_0, fn_6_0, rM_6_38, iv5_2, hc_22, rM_6_201, hc_26, s_iconst, s_istore_n, s_iload_n, s_icmp_ge, rM_6_204, hc_28, s_if_eq, rM_6_208, iv4_1, hc_82, s_if_lt, s_iinc, s_goto, (s_putf rF_6_165), ft_3_1, fn_3_1, rM_6_46, iv4_2, hc_68, i1_0, up_n, ret_b, bI_0, pk_us, pk_un, up_e, up_up, Decidable.not_not, nI_1, Int32.add_zero, Int32.zero_add, vz_0, tn_0, vz_1, tn_1, vz_2, tn_2, vz_3, tn_3, vz_4, tn_4, vz_5, tn_5, vz_6, tn_6, vz_7, tn_7, vz_8, tn_8, vz_9, tn_9, vz_10, tn_10, vz_11, tn_11, vz_12, tn_12, vz_13, tn_13, vz_14, tn_14, vz_15, tn_15, vz_160, tn_160, vz_161, tn_161, vz_162, tn_162, vz_163, tn_163, vz_164, tn_164, vs_0, vs_1, vs_2, vs_3, vs_4, vs_5, run_s, run_e, run_0, true_and, and_true, and_self, or_true, true_or, or_false, false_or, List.length_cons, List.length_nil, Option.toList_some, Option.toList_none, List.cons_append, List.nil_append, isI_t, isJ_t, isA_t, vI_t, nI32_t, isF_t, gF_t, sF_t, isO_t, isP_t, isP0_t, gE_t, sE_t, isR_t, gO_t, sO_t, isS_t, vS_t, isSc_t, nSc_t, pok_i, pok_o, pok_a, pok_0, pok_1, ret_i, ret_0, ret_1, ret_v, clr_i, clr_j, clr_r, clr_n, cat_i, cat_r, kk0, kk1, kk2, eq_self, Nat.reduceEqDiff, Nat.reduceLeDiff, Nat.reduceAdd, Nat.reduceLT, Nat.reduceSub, Nat.reduceMul, forall_const, imp_false, not_true_eq_false, not_false_eq_true, false_imp_iff, Nat.zero_ne_one, Nat.one_ne_zero, Bool.false_eq_true, reduceCtorEq, ne_eq, Nat.add_zero, Nat.reduceBEq, Bool.or_false, Bool.or_true, Bool.false_or, Bool.true_or, or_self, entL, List.flatMap_cons, List.flatMap_nil, List.reduceReplicate, ↓reduceIte, cat_j, lg_0, lg_1, lg_2, lg_3, lg_4, lg_5, lg_6, lg_7, lg_8, lg_9, lg_10, lg_11, lg_12, lg_13, lg_14, lg_15, lg_16, ls_0, ls_1, ls_2, ls_3, ls_4, ls_5, ls_6, ls_7, ls_8, ls_9, ls_10, ls_11, ls_12, ls_13, ls_14, ls_15, ls_16, st_0, st_1, st_2, st_3, st_4, st_5, st_6, st_7, st_8, st_9, st_10, st_11, st_12, st_13, st_14, st_15, a1, a5]
  refine call0 (C_firstFault hP a5 a6 (by decide) fun w1 x l a b c hW1 hF1 => ?_)
  rw [ff_0]
  refine go_ok hJ (fun _ => false) 60 ?_
  simp -implicitDefEqProofs only [E_81, s_aload_n, (s_getf rF_6_34), ft_6_4, fn_6_4, s_invokevirtual, rM_6_198, iv5_1, hc_27, s_bipush, s_icmp_eq, s_ireturn, (s_getf rF_6_27), ft_6_3, fn_6_3, (s_getf rF_6_10), ft_6_0, fn_6_0, rM_6_38, iv5_2, hc_22, rM_6_201, hc_26, s_iconst, s_istore_n, s_iload_n, s_icmp_ge, rM_6_204, hc_28, s_if_eq, rM_6_208, iv4_1, hc_82, s_if_lt, s_iinc, s_goto, (s_putf rF_6_165), ft_3_1, fn_3_1, rM_6_46, iv4_2, hc_68, i1_0, up_n, ret_b, bI_0, pk_us, pk_un, up_e, up_up, Decidable.not_not, nI_1, Int32.add_zero, Int32.zero_add, vz_0, tn_0, vz_1, tn_1, vz_2, tn_2, vz_3, tn_3, vz_4, tn_4, vz_5, tn_5, vz_6, tn_6, vz_7, tn_7, vz_8, tn_8, vz_9, tn_9, vz_10, tn_10, vz_11, tn_11, vz_12, tn_12, vz_13, tn_13, vz_14, tn_14, vz_15, tn_15, vz_160, tn_160, vz_161, tn_161, vz_162, tn_162, vz_163, tn_163, vz_164, tn_164, vs_0, vs_1, vs_2, vs_3, vs_4, vs_5, run_s, run_e, run_0, true_and, and_true, and_self, or_true, true_or, or_false, false_or, List.length_cons, List.length_nil, Option.toList_some, Option.toList_none, List.cons_append, List.nil_append, isI_t, isJ_t, isA_t, vI_t, nI32_t, isF_t, gF_t, sF_t, isO_t, isP_t, isP0_t, gE_t, sE_t, isR_t, gO_t, sO_t, isS_t, vS_t, isSc_t, nSc_t, pok_i, pok_o, pok_a, pok_0, pok_1, ret_i, ret_0, ret_1, ret_v, clr_i, clr_j, clr_r, clr_n, cat_i, cat_r, kk0, kk1, kk2, eq_self, Nat.reduceEqDiff, Nat.reduceLeDiff, Nat.reduceAdd, Nat.reduceLT, Nat.reduceSub, Nat.reduceMul, forall_const, imp_false, not_true_eq_false, not_false_eq_true, false_imp_iff, Nat.zero_ne_one, Nat.one_ne_zero, Bool.false_eq_true, reduceCtorEq, ne_eq, Nat.add_zero, Nat.reduceBEq, Bool.or_false, Bool.or_true, Bool.false_or, Bool.true_or, or_self, entL, List.flatMap_cons, List.flatMap_nil, List.reduceReplicate, ↓reduceIte, cat_j, lg_0, lg_1, lg_2, lg_3, lg_4, lg_5, lg_6, lg_7, lg_8, lg_9, lg_10, lg_11, lg_12, lg_13, lg_14, lg_15, lg_16, ls_0, ls_1, ls_2, ls_3, ls_4, ls_5, ls_6, ls_7, ls_8, ls_9, ls_10, ls_11, ls_12, ls_13, ls_14, ls_15, ls_16, st_0, st_1, st_2, st_3, st_4, st_5, st_6, st_7, st_8, st_9, st_10, st_11, st_12, st_13, st_14, st_15]
  refine ⟨fun z => absurd z (nI_m6 (by decide)), fun _ => hQ _ ?_⟩
  exact ⟨hs, fl [nI 0, nI x.1, fb x.2, l, a, b, c], pd, hW.pa hW1.1 hW1.2 hF1, hS.fr (hF1.wk (by omega) (by omega)), (hF1 _ (by omega)).trans hx, rfl, t7, s6, hE⟩
theorem X_undo (b : LB L xs w y yp s t sl sv) (hQ0 : s = 0 → Q (some (.int (-5))) w) (hQ : ∀ r w' y', s = r + 1 → yEq y' yp → (∃ yq, LB L xs w' y' yq r ((t + 6) % 7) sl sv) → Q (some (.int (nI r))) w') : T G (d + 4) 0 83 [.ref 0] 137 w Q := by
  obtain ⟨hs, P, pd, hW, hS, hx, hP, t7, s6, hE⟩ := b
  refine C_undo hW t7 s6 hQ0 (fun r w1 y1 e hE1 hW1 hF1 => ?_)
  exact hQ r w1 y1 e (hE1.tr hE) ⟨_, hs, P, pd, hW1, hS.fr hF1, (hF1 _ (by omega)).trans hx, hP, Nat.mod_lt _ (by decide), by omega, yEq.rf⟩
theorem X_save (b : LB L xs w y yp s t sl sv) {v : Int32} (hQ0 : ¬ (0 ≤ v ∧ v < 2) → Q (some (.int (-2))) w) (hQ : ∀ r w' yb, r < 2 → v = nI r → yEq yb y → LB L xs w' y yp s t (sq sl r yb) (upd sv r 1) → Q (some (.int (y 2 0))) w') : T G (d + 3) 0 84 [.ref 0, .int v] 137 w Q := by
  obtain ⟨hs, P, pd, hW, hS, hx, hP, t7, s6, hE⟩ := b
  refine C_save hW hQ0 (fun r w1 yb hr e hb hW1 hF1 => hQ r w1 yb hr e hb ?_)
  exact ⟨hs, P, pd, hW1, hS.fr hF1, (hF1 _ (by omega)).trans hx, hP, t7, s6, hE⟩
theorem X_restore (b : LB L xs w y yp s t sl sv) (hsv : ∀ r, r < 2 → sv r = 0 ∨ sv r = 1) {v : Int32} (hm : ∀ r, r < 2 → sv r = 1 → ¬ sl r 2 0 < 0) (hQ0 : ¬ (0 ≤ v ∧ v < 2) → Q (some (.int (-2))) w) (hQ1 : ∀ r, r < 2 → v = nI r → sv r = 0 → Q (some (.int (-5))) w) (hQ : ∀ r w' y', r < 2 → v = nI r → sv r = 1 → yEq y' (sl r) → LB L xs w' y' y (nS6 s) ((t + 1) % 7) sl sv → Q (some (.int (y' 2 0))) w') : T G (d + 4) 0 85 [.ref 0, .int v] 137 w Q := by
  obtain ⟨hs, P, pd, hW, hS, hx, hP, t7, s6, hE⟩ := b
  exact C_restore hW t7 s6 hsv hm hQ0 hQ1 (fun r w1 yb y1 hr e h1 hb h2 hW1 hF1 => hQ r w1 y1 hr e h1 h2 (LB.ac hS hx hP t7 hb hW1 hF1))
end B2
