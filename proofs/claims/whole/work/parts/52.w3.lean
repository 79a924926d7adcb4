/-! the two worlds side by side: what is kept by each pair of calls -/
def FS0 : Nat → Int32 := fl [2, 20, 12, 45, 3, 2]
def LS0 : Nat → Int32 := fl [1, 1, 1, 1, 0, 0]
def MS0 : Nat → Int32 := fl [9, 200, 60, 99, 9, 8]
def HI (b : Nat) (past : Zz) (hs : Nat → Yy) (s t : Nat) : Prop := ∀ i, i < s → ∃ m, RY b (fun j => past (201 * i + j)) (hs ((t + 7 - s + i) % 7)) m
def SLt (b : Nat) (slots : Zz) (sl : Nat → Yy) (sv svM : Zz) : Prop := ∀ r, r < 2 → sv r = svM r ∧ (svM r = 0 ∨ svM r = 1) ∧ (svM r = 1 → ∃ m, RY b (fun j => slots (201 * r + j)) (sl r) m)
def IV (b L : Nat) (xs : Zz) (w : Wd) : Prop := ∃ (y : Yy) (hs sl : Nat → Yy) (sv P pd z spare past slots svM told : Zz) (s t n m : Nat) (spM tm : Int32), CW w y hs sl sv P pd (nI s) (nI t) ∧ MW w z spare past slots svM pd told (nI s) (nI n) spM tm ∧ (CS w FS0 LS0 MS0 ∧ w 1000 = ar 4 L xs) ∧ (s ≤ 6 ∧ t < 7 ∧ P 0 = nI n ∧ n ≤ 80) ∧ RY b z y m ∧ HI b past hs s t ∧ SLt b slots sl sv svM
def KP (L : Nat) (xs : Zz) (w : Wd) : Prop := w 1000 = ar 4 L xs ∧ ∃ fs, w 137 = some (.inr (.inr (7, fs)))
theorem KP.fc {L : Nat} {xs : Zz} {w w' : Wd} (h : KP L xs w) (hF : FC w w') : KP L xs w' := by
  obtain ⟨h1, fs, h2⟩ := h
  exact ⟨(hF _ (by omega)).trans h1, fs, (hF _ (by omega)).trans h2⟩
def PR (G : Gx) (b L : Nat) (xs : Zz) (w : Wd) (mi mj : Nat) (args : List Value) : Prop := T G 9 0 mi (.ref 0 :: args) 145 w (fun r w1 => ∃ v, r = some (.int v) ∧ KP L xs w1 ∧ T G 9 0 mj (.ref 137 :: args) 145 w1 (fun r2 w2 => r2 = some (.int v) ∧ IV (b + 400) L xs w2))
section W3
variable {w w' w1 w2 : Wd} {y y' yb : Yy} {hs sl : Nat → Yy} {sv P P' pd z z' spare past slots svM told told' xs : Zz} {b b' s t n n' m m' L : Nat} {sz sp st ty spM tm spM' tm' : Int32}
theorem MW.fc (h : MW w z spare past slots sv pd told st ty sp tm) (hF : FC w w') : MW w' z spare past slots sv pd told st ty sp tm := by
  obtain ⟨h0, h1, h2, h3, h4, h5, h6, h7⟩ := h
  exact ⟨(hF _ (by omega)).trans h0, (hF _ (by omega)).trans h1, (hF _ (by omega)).trans h2, (hF _ (by omega)).trans h3, (hF _ (by omega)).trans h4, (hF _ (by omega)).trans h5, (hF _ (by omega)).trans h6, (hF _ (by omega)).trans h7⟩
theorem CW.fm (h : CW w y hs sl sv P pd sz sp) (hF : FR w w') : CW w' y hs sl sv P pd sz sp := by
  obtain ⟨⟨a1, a2, a3, a4, a5, a6⟩, ⟨g, g1, g2⟩, ⟨k, k1, k2⟩, c1, c2⟩ := h
  exact ⟨⟨(hF _ (by omega)).trans a1, a2.fr fun j hj => hF _ (by omega), (hF _ (by omega)).trans a3, (hF _ (by omega)).trans a4, (hF _ (by omega)).trans a5, (hF _ (by omega)).trans a6⟩, ⟨g, (hF _ (by omega)).trans g1, g2⟩, ⟨k, (hF _ (by omega)).trans k1, k2⟩, fun j hj => (c1 j hj).fr fun i hi => hF _ (by omega), fun j hj => (c2 j hj).fr fun i hi => hF _ (by omega)⟩
theorem IV.mk (hW : CW w y hs sl sv P pd (nI s) (nI t)) (hM : MW w z spare past slots svM pd told (nI s) (nI n) spM tm) (hS : CS w FS0 LS0 MS0) (hx : w 1000 = ar 4 L xs) (s6 : s ≤ 6) (t7 : t < 7) (hP : P 0 = nI n) (hn : n ≤ 80) (hR : RY b z y m) (hH : HI b past hs s t) (hL : SLt b slots sl sv svM) : IV b L xs w := ⟨y, hs, sl, sv, P, pd, z, spare, past, slots, svM, told, s, t, n, m, spM, tm, hW, hM, ⟨hS, hx⟩, ⟨s6, t7, hP, hn⟩, hR, hH, hL⟩
theorem HI.up (h : HI b past hs s t) (hb : b ≤ b') : HI b' past hs s t := fun i hi => by
  obtain ⟨m, e⟩ := h i hi
  exact ⟨m, e.up hb⟩
theorem SLt.up (h : SLt b slots sl sv svM) (hb : b ≤ b') : SLt b' slots sl sv svM := fun r hr => by
  obtain ⟨h1, h2, h3⟩ := h r hr
  refine ⟨h1, h2, fun e => ?_⟩
  obtain ⟨m, e⟩ := h3 e
  exact ⟨m, e.up hb⟩
theorem HI.err (h : HI b past hs s t) (s6 : s ≤ 6) (t7 : t < 7) : HI b past (sq hs t yb) s t := fun i hi => by
  obtain ⟨m, e⟩ := h i hi
  rw [show sq hs t yb ((t + 7 - s + i) % 7) = hs ((t + 7 - s + i) % 7) from if_neg (by omega)]
  exact ⟨m, e⟩
theorem recS_n (s6 : s ≤ 6) : recS s = nS6 s := by
  unfold recS nS6
  split <;> split <;> omega
theorem nS6_le : nS6 s ≤ 6 := by
  unfold nS6
  split <;> omega
theorem HI.rec (h : HI b past hs s t) (s6 : s ≤ 6) (t7 : t < 7) (hR : RY b z y m) (hE : yEq yb y) : HI b (recP z past s) (sq hs t yb) (nS6 s) ((t + 1) % 7) := fun i hi => by
  by_cases e6 : s = 6
  · subst e6
    have hi6 : i < 6 := hi
    have en : nS6 6 = 6 := rfl
    rw [en]
    by_cases e5 : i = 5
    · subst e5
      rw [show sq hs t yb (((t + 1) % 7 + 7 - 6 + 5) % 7) = yb from if_pos (by omega)]
      refine ⟨m, hR.eq (fun j hj => ?_) hE⟩
      unfold recP
      rw [pk_cpy_in (by simp only [if_pos]; omega) (by simp only [if_pos]; omega)]
      refine congrArg z ?_
      simp only [if_pos]
      omega
    · obtain ⟨m', e⟩ := h (i + 1) (by omega)
      rw [show sq hs t yb (((t + 1) % 7 + 7 - 6 + i) % 7) = hs (((t + 1) % 7 + 7 - 6 + i) % 7) from if_neg (by omega), show ((t + 1) % 7 + 7 - 6 + i) % 7 = (t + 7 - 6 + (i + 1)) % 7 by omega]
      refine ⟨m', e.eq (fun j hj => ?_) yEq.rf⟩
      unfold recP
      rw [pk_cpy_out (by simp only [if_pos]; omega)]
      simp only [if_pos]
      rw [if_pos (by omega)]
      refine congrArg past ?_
      omega
  · have en : nS6 s = s + 1 := if_pos (by omega)
    rw [en] at hi ⊢
    by_cases e5 : i = s
    · subst e5
      rw [show sq hs t yb (((t + 1) % 7 + 7 - (i + 1) + i) % 7) = yb from if_pos (by omega)]
      refine ⟨m, hR.eq (fun j hj => ?_) hE⟩
      unfold recP
      rw [pk_cpy_in (by simp only [if_neg e6]; omega) (by simp only [if_neg e6]; omega)]
      refine congrArg z ?_
      simp only [if_neg e6]
      omega
    · obtain ⟨m', e⟩ := h i (by omega)
      rw [show sq hs t yb (((t + 1) % 7 + 7 - (s + 1) + i) % 7) = hs (((t + 1) % 7 + 7 - (s + 1) + i) % 7) from if_neg (by omega), show ((t + 1) % 7 + 7 - (s + 1) + i) % 7 = (t + 7 - s + i) % 7 by omega]
      refine ⟨m', e.eq (fun j hj => ?_) yEq.rf⟩
      unfold recP
      rw [pk_cpy_out (by simp only [if_neg e6]; omega)]
      simp only [if_neg e6]
theorem CS.fm {fs ls ms : Nat → Int32} (hS : CS w fs ls ms) (hF : FR w w') : CS w' fs ls ms := ⟨(hF _ (by omega)).trans hS.1, (hF _ (by omega)).trans hS.2.1, (hF _ (by omega)).trans hS.2.2⟩
/-- a refused change -/
theorem IV.err (hM : MW w z spare past slots svM pd told (nI s) (nI n) spM tm) (hS : CS w FS0 LS0 MS0) (hx : w 1000 = ar 4 L xs) (s6 : s ≤ 6) (t7 : t < 7) (hP : P 0 = nI n) (hn : n ≤ 80) (hR : RY b z y m) (hH : HI b past hs s t) (hL : SLt b slots sl sv svM) (hW1 : CW w1 y (sq hs t yb) sl sv P pd (nI s) (nI t)) (hF1 : FC w w1) : IV (b + 400) L xs w1 :=
  IV.mk hW1 (hM.fc hF1) (hS.fr hF1) ((hF1 _ (by omega)).trans hx) s6 t7 hP hn (hR.up (by omega)) ((hH.err s6 t7).up (by omega)) (hL.up (by omega))
/-- a change -/
theorem IV.ok (hS : CS w FS0 LS0 MS0) (hx : w 1000 = ar 4 L xs) (s6 : s ≤ 6) (t7 : t < 7) (hR : RY b z y m) (hH : HI b past hs s t) (hL : SLt b slots sl sv svM) (hE : yEq yb y) (hP : P' 0 = nI n') (hn : n' ≤ 80) (hR' : RY (b + 400) z' y' m') (hW1 : CW w1 y' (sq hs t yb) sl sv P' pd (nI (nS6 s)) (nI ((t + 1) % 7))) (hF1 : FC w w1) (hM2 : MW w2 z' spare (recP z past s) slots svM pd told' (nI (recS s)) (nI n') spM' tm') (hF2 : FR w1 w2) : IV (b + 400) L xs w2 := by
  rw [recS_n s6] at hM2
  exact IV.mk (hW1.fm hF2) hM2 ((hS.fr hF1).fm hF2) ((hF2 _ (by omega)).trans ((hF1 _ (by omega)).trans hx)) nS6_le (Nat.mod_lt _ (by decide)) hP hn hR' ((hH.rec s6 t7 hR hE).up (by omega)) (hL.up (by omega))
/-- nothing changed -/
theorem IV.up (h : IV b L xs w) (hb : b ≤ b') : IV b' L xs w := by
  obtain ⟨y, hs, sl, sv, P, pd, z, spare, past, slots, svM, told, s, t, n, m, spM, tm, hW, hM, ⟨hS, hx⟩, ⟨s6, t7, hP, hn⟩, hR, hH, hL⟩ := h
  exact IV.mk hW hM hS hx s6 t7 hP hn (hR.up hb) (hH.up hb) (hL.up hb)
theorem vOk_ls {j : Nat} {v : Int32} (hj : j < 6) : vOk (nI j) v ↔ (LS0 j ≤ v ∧ v ≤ MS0 j) := by
  have k6 : j = 0 ∨ j = 1 ∨ j = 2 ∨ j = 3 ∨ j = 4 ∨ j = 5 := by omega
  rcases k6 with rfl | rfl | rfl | rfl | rfl | rfl
  · refine ⟨fun w => ?_, fun w => Or.inl ⟨nI_0, w⟩⟩
    rcases w with ⟨e, w⟩ | ⟨e, w⟩ | ⟨e, w⟩ | ⟨e, w⟩ | ⟨e, w⟩ | ⟨e, w⟩ <;> first | exact w | exact absurd e (by decide)
  · refine ⟨fun w => ?_, fun w => Or.inr (Or.inl ⟨rfl, w⟩)⟩
    rcases w with ⟨e, w⟩ | ⟨e, w⟩ | ⟨e, w⟩ | ⟨e, w⟩ | ⟨e, w⟩ | ⟨e, w⟩ <;> first | exact w | exact absurd e (by decide)
  · refine ⟨fun w => ?_, fun w => Or.inr (Or.inr (Or.inl ⟨rfl, w⟩))⟩
    rcases w with ⟨e, w⟩ | ⟨e, w⟩ | ⟨e, w⟩ | ⟨e, w⟩ | ⟨e, w⟩ | ⟨e, w⟩ <;> first | exact w | exact absurd e (by decide)
  · refine ⟨fun w => ?_, fun w => Or.inr (Or.inr (Or.inr (Or.inl ⟨rfl, w⟩)))⟩
    rcases w with ⟨e, w⟩ | ⟨e, w⟩ | ⟨e, w⟩ | ⟨e, w⟩ | ⟨e, w⟩ | ⟨e, w⟩ <;> first | exact w | exact absurd e (by decide)
  · refine ⟨fun w => ?_, fun w => Or.inr (Or.inr (Or.inr (Or.inr (Or.inl ⟨rfl, w⟩))))⟩
    rcases w with ⟨e, w⟩ | ⟨e, w⟩ | ⟨e, w⟩ | ⟨e, w⟩ | ⟨e, w⟩ | ⟨e, w⟩ <;> first | exact w | exact absurd e (by decide)
  · refine ⟨fun w => ?_, fun w => Or.inr (Or.inr (Or.inr (Or.inr (Or.inr ⟨rfl, w⟩))))⟩
    rcases w with ⟨e, w⟩ | ⟨e, w⟩ | ⟨e, w⟩ | ⟨e, w⟩ | ⟨e, w⟩ | ⟨e, w⟩ <;> first | exact w | exact absurd e (by decide)
end W3
section W3b
variable {G : Gx} {w : Wd} {xs : Zz} {b L : Nat}
theorem P_set (H : IV b L xs w) (i v : Int32) : PR G b L xs w 66 115 [.int i, .int v] := by
  obtain ⟨y, hs, sl, sv, P, pd, z, spare, past, slots, svM, told, s, t, n, m, spM, tm, hW, hM, ⟨hS, hx⟩, ⟨s6, t7, hP, hn⟩, hR, hH, hL⟩ := H
  have kp : KP L xs w := ⟨hx, _, hM.1⟩
  obtain ⟨l, tt, ss, h, cl, R, hcr⟩ := id hR
  refine C_set hW hS t7 s6 (fun j hj => by rw [R.1.2.1.2 j hj]; exact R.1.2.2.2.1.1 j hj) (fun hno w1 yb hE hW1 hF1 => ⟨_, rfl, kp.fc hF1, ?_⟩) (fun j hj e1 e2 w1 yb hE hW1 hF1 => ⟨_, rfl, kp.fc hF1, ?_⟩)
  · refine M_set s6 (hM.fc hF1) (fun _ => ⟨rfl, IV.err hM hS hx s6 t7 hP hn hR hH hL hW1 hF1⟩) (fun k w2 ok ek hk _ _ => ?_)
    rw [ek] at ok
    exact absurd ((vOk_ls hk).mp ok) (hno k hk ek)
  · have ok := (vOk_ls hj).mpr e2
    refine M_set s6 (hM.fc hF1) (fun nok => absurd (by rw [e1]; exact ok) nok) (fun k w2 ok2 ek hk hM2 hF2 => ?_)
    have ejk : k = j := (nI_eq (by omega) (by omega)).mp (ek.symm.trans e1)
    subst ejk
    refine ⟨by rw [R.1.2.1.2 k hk], IV.ok hS hx s6 t7 hR hH hL hE hP hn ((R.setY hcr hj ok).up (by omega)) hW1 hF1 hM2 hF2⟩
theorem P_prize (H : IV b L xs w) (k g v : Int32) : PR G b L xs w 67 118 [.int k, .int g, .int v] := by
  obtain ⟨y, hs, sl, sv, P, pd, z, spare, past, slots, svM, told, s, t, n, m, spM, tm, hW, hM, ⟨hS, hx⟩, ⟨s6, t7, hP, hn⟩, hR, hH, hL⟩ := H
  have kp : KP L xs w := ⟨hx, _, hM.1⟩
  obtain ⟨l, tt, ss, h, cl, R, hcr⟩ := id hR
  have hK := R.ky
  have h15 := R.1.2.2.2.2
  have h24 := hK.1.2.1
  refine C_prize hW hK.1.1 h24 t7 s6 (fun x hx0 hx1 w1 yb hE hW1 hF1 => ⟨_, rfl, kp.fc hF1, ?_⟩) (fun e1 e2 w1 yb hE hW1 hF1 => ⟨_, rfl, kp.fc hF1, ?_⟩)
  · refine M_prize s6 (hM.fc hF1) h15 h24 (fun x2 hx2 _ => ⟨?_, IV.err hM hS hx s6 t7 hP hn hR hH hL hW1 hF1⟩) (fun w2 e1 e2 _ _ => ?_)
    · rcases hx0 with ⟨a1, a2⟩ | ⟨a1, a2, a3⟩ | ⟨a1, a2, a3⟩
      · rcases hx2 with ⟨b1, b2⟩ | ⟨b1, b2, b3⟩ | ⟨b1, b2, b3⟩
        · rw [a2, b2]
        · exact absurd b1 a1
        · exact absurd b1 a1
      · rcases hx2 with ⟨b1, b2⟩ | ⟨b1, b2, b3⟩ | ⟨b1, b2, b3⟩
        · exact absurd a1 b1
        · rw [a3, b3]
        · exact absurd a2 b2
      · exact absurd a3 hx1
    · rcases hx0 with ⟨a1, a2⟩ | ⟨a1, a2, a3⟩ | ⟨a1, a2, a3⟩
      · exact absurd e1 a1
      · omega
      · exact absurd a3 hx1
  · refine M_prize s6 (hM.fc hF1) h15 h24 (fun x2 hx2 hx3 => ?_) (fun w2 _ _ hM2 hF2 => ⟨rfl, IV.ok hS hx s6 t7 hR hH hL hE hP hn ((R.prizeY hcr e1 e2).up (by omega)) hW1 hF1 hM2 hF2⟩)
    rcases hx2 with ⟨b1, b2⟩ | ⟨b1, b2, b3⟩ | ⟨b1, b2, b3⟩
    · exact absurd e1 b1
    · omega
    · exact absurd b3 hx3
theorem P_add (H : IV b L xs w) (v : Int32) : PR G b L xs w 68 120 [.int v] := by
  obtain ⟨y, hs, sl, sv, P, pd, z, spare, past, slots, svM, told, s, t, n, m, spM, tm, hW, hM, ⟨hS, hx⟩, ⟨s6, t7, hP, hn⟩, hR, hH, hL⟩ := H
  have kp : KP L xs w := ⟨hx, _, hM.1⟩
  obtain ⟨l, tt, ss, h, cl, R, hcr⟩ := id hR
  have hK := R.ky
  have h15 := R.1.2.2.2.2
  have h24 := hK.1.2.1
  have hnx := R.1.1.nx
  have hcn := R.1.1.2.2.2.2.2.2.1
  have h4 := R.1.1.h4
  refine C_add hW hK t7 s6 (fun x hx0 w1 yb hE hW1 hF1 => ⟨_, rfl, kp.fc hF1, ?_⟩) (fun c hc e1 e2 e3 w1 yb hE hW1 hF1 => ⟨_, rfl, kp.fc hF1, ?_⟩)
  · have nok : ∀ {P : Prop}, (0 ≤ v ∧ v ≤ 7) → l < m → zCnt z v m ≠ 4 → P := fun q1 q2 q3 => by
      rcases hx0 with ⟨a1, a2⟩ | ⟨a1, a2, a3⟩ | ⟨⟨c, hc, a1, a2, a3⟩, a4⟩
      · exact absurd (c78.mp q1) a1
      · exact absurd q2 a2
      · rw [a1, hcn c hc] at q3
        have := h4 c hc
        omega
    refine M_add s6 (hM.fc hF1) h15 h24 (fun x2 hx2 hx3 => ⟨?_, IV.err hM hS hx s6 t7 hP hn hR hH hL hW1 hF1⟩) (fun w2 e1 e2 _ _ => ?_)
    · unfold zWA at hx2
      rw [hnx] at hx2
      rcases hx2 with ⟨b1, b2⟩ | ⟨b1, b2, b3⟩ | ⟨b1, b2, b3, b4⟩ | ⟨b1, b2, b3, b4⟩
      · rcases hx0 with ⟨a1, a2⟩ | ⟨a1, a2, a3⟩ | ⟨⟨c, hc, a1, a2, a3⟩, a4⟩
        · rw [a2, b2]
        · exact absurd (c78.mpr a1) b1
        · exact absurd (by rw [a1]; exact ⟨nI_pos' (by omega), nI_le (b := 7) (by omega) (by decide)⟩) b1
      · rcases hx0 with ⟨a1, a2⟩ | ⟨a1, a2, a3⟩ | ⟨⟨c, hc, a1, a2, a3⟩, a4⟩
        · exact absurd (c78.mp b1) a1
        · rw [a3, b3]
        · exact absurd a2 b2
      · rcases hx0 with ⟨a1, a2⟩ | ⟨a1, a2, a3⟩ | ⟨⟨c, hc, a1, a2, a3⟩, a4⟩
        · exact absurd (c78.mp b1) a1
        · exact absurd b2 a2
        · rw [a4, b4]
      · exact absurd b4 hx3
    · rw [hnx] at e2
      unfold zWA at e1
      rw [hnx] at e1
      rcases e1 with ⟨b1, b2⟩ | ⟨b1, b2, b3⟩ | ⟨b1, b2, b3, b4⟩ | ⟨b1, b2, b3, b4⟩
      · exact absurd b2 (by decide)
      · exact absurd b3 (by decide)
      · exact absurd b4 (by decide)
      · exact nok b1 b2 b3
  · refine M_add s6 (hM.fc hF1) h15 h24 (fun x2 hx2 hx3 => ?_) (fun w2 e4 e5 hM2 hF2 => ⟨by rw [hnx], ?_⟩)
    · unfold zWA at hx2
      rw [hnx] at hx2
      rcases hx2 with ⟨b1, b2⟩ | ⟨b1, b2, b3⟩ | ⟨b1, b2, b3, b4⟩ | ⟨b1, b2, b3, b4⟩
      · exact absurd (by rw [e1]; exact ⟨nI_pos' (by omega), nI_le (b := 7) (by omega) (by decide)⟩) b1
      · exact absurd e2 b2
      · rw [e1, hcn c hc] at b3
        omega
      · exact absurd b4 hx3
    · rw [e1] at hM2
      exact IV.ok hS hx s6 t7 hR hH hL hE hP hn ((R.addY hcr e2 hc e3).up (by omega)) hW1 hF1 hM2 hF2
theorem P_coins (H : IV b L xs w) (v : Int32) : PR G b L xs w 69 122 [.int v] := by
  obtain ⟨y, hs, sl, sv, P, pd, z, spare, past, slots, svM, told, s, t, n, m, spM, tm, hW, hM, ⟨hS, hx⟩, ⟨s6, t7, hP, hn⟩, hR, hH, hL⟩ := H
  have kp : KP L xs w := ⟨hx, _, hM.1⟩
  obtain ⟨l, tt, ss, h, cl, R, hcr⟩ := id hR
  have n6 : y 0 0 = z 6 := R.1.2.1.1.1
  refine C_coins hW t7 s6 (fun e1 e2 => ?_) (fun x hx0 w1 yb hE hW1 hF1 => ⟨_, rfl, kp.fc hF1, ?_⟩) (fun e1 e2 w1 yb hE hW1 hF1 => ⟨_, rfl, kp.fc hF1, ?_⟩)
  · rw [n6] at e2 ⊢
    obtain ⟨-, -, -, -, -, -, cr, ec, hcr2⟩ := R.coinsY hcr (v := v) ⟨e1, e2⟩
    rw [pk_us] at ec
    rw [ec]
    exact nI_pos (by omega)
  · rw [n6] at hx0
    refine M_coins s6 (hM.fc hF1) (fun x2 hx2 hx3 => ⟨?_, IV.err hM hS hx s6 t7 hP hn hR hH hL hW1 hF1⟩) (fun w2 e1 _ _ => ?_)
    · rcases hx2 with ⟨b1, b2⟩ | ⟨b1, b2, b3⟩ | ⟨b1, b2, b3⟩
      · rcases hx0 with ⟨a1, a2⟩ | ⟨a1, a2, a3⟩
        · rw [a2, b2]
        · exact absurd a1 b1
      · rcases hx0 with ⟨a1, a2⟩ | ⟨a1, a2, a3⟩
        · exact absurd b1 a1
        · rw [a3, b3]
      · exact absurd b3 hx3
    · exfalso
      have ok := (zWC_0 e1).mp rfl
      rcases hx0 with ⟨a1, a2⟩ | ⟨a1, a2, a3⟩
      · exact a1 ok.1
      · exact ok.2 a2
  · rw [n6] at e2
    refine M_coins s6 (hM.fc hF1) (fun x2 hx2 hx3 => absurd ((zWC_0 hx2).mpr ⟨e1, e2⟩) hx3) (fun w2 _ hM2 hF2 => ⟨by rw [n6], ?_⟩)
    exact IV.ok hS hx s6 t7 hR hH hL hE hP hn ((R.coinsY hcr ⟨e1, e2⟩).up (by omega)) hW1 hF1 hM2 hF2
theorem eAim_c (v a : Int32) : (¬ (0 ≤ v ∧ v ≤ 7) ∧ eAim v a = -1) ∨ ((0 ≤ v ∧ v ≤ 7) ∧ ¬ (0 ≤ a ∧ a ≤ 4) ∧ eAim v a = -2) ∨ ((0 ≤ v ∧ v ≤ 7) ∧ (0 ≤ a ∧ a ≤ 4) ∧ eAim v a = 0) := by
  unfold eAim
  by_cases q : 0 ≤ v ∧ v ≤ 7
  · rw [if_pos (c78.mp q)]
    by_cases q2 : 0 ≤ a ∧ a ≤ 4
    · rw [if_pos q2]
      exact Or.inr (Or.inr ⟨q, q2, rfl⟩)
    · rw [if_neg q2]
      exact Or.inr (Or.inl ⟨q, q2, rfl⟩)
  · rw [if_neg (fun w => q (c78.mpr w))]
    exact Or.inl ⟨q, rfl⟩
theorem P_play (H : IV b L xs w) (v a : Int32) : PR G b L xs w 70 133 [.int v, .int a] := by
  obtain ⟨y, hs, sl, sv, P, pd, z, spare, past, slots, svM, told, s, t, n, m, spM, tm, hW, hM, ⟨hS, hx⟩, ⟨s6, t7, hP, hn⟩, hR, hH, hL⟩ := H
  have kp : KP L xs w := ⟨hx, _, hM.1⟩
  obtain ⟨l, tt, ss, h, cl, R, hcr⟩ := id hR
  have hK := R.ky
  have h15 := R.1.2.2.2.2
  have h24 := hK.1.2.1
  have n6 : y 0 0 = z 6 := R.1.2.1.1.1
  have n0 : y 1 0 = z 0 := R.1.2.1.2 0 (by decide)
  obtain ⟨qq, hq, hq8⟩ := R.1.2.2.2.1.2.2.2.1
  have hq' : y 1 5 = nI qq := (R.1.2.1.2 5 (by decide)).trans hq
  refine C_play hW hK hq' hq8 t7 s6 (fun x hx0 w1 yb hE hW1 hF1 => ⟨_, rfl, kp.fc hF1, ?_⟩) (fun c hc e1 e2 e3 w1 yb hE hW1 hF1 => ⟨_, rfl, kp.fc hF1, ?_⟩)
  · rw [n6, n0] at hx0
    refine M_play s6 (hM.fc hF1) h15 h24 (fun x2 hx2 hx3 => ⟨?_, IV.err hM hS hx s6 t7 hP hn hR hH hL hW1 hF1⟩) (fun w2 e1 _ _ => ?_)
    · rcases eAim_c v a with ⟨c1, c2⟩ | ⟨c1, c2, c3⟩ | ⟨c1, c2, c3⟩
      · rw [c2] at hx0
        rcases hx2 with ⟨b1, b2⟩ | ⟨b1, b2, b3⟩ | ⟨b1, b2, b3, b4⟩ | ⟨b1, b2, b3, b4⟩
        · rcases hx0 with ⟨-, a2⟩ | ⟨a1, -⟩
          · rw [a2, b2]
          · exact absurd a1 (by decide)
        · exact absurd b1 c1
        · exact absurd b1 c1
        · exact absurd b4 hx3
      · rw [c3] at hx0
        rcases hx2 with ⟨b1, b2⟩ | ⟨b1, b2, b3⟩ | ⟨b1, b2, b3, b4⟩ | ⟨b1, b2, b3, b4⟩
        · exact absurd c1 b1
        · rcases hx0 with ⟨-, a2⟩ | ⟨a1, -⟩
          · rw [a2, b3]
          · exact absurd a1 (by decide)
        · exact absurd b2 c2
        · exact absurd b4 hx3
      · rw [c3] at hx0
        rcases hx2 with ⟨b1, b2⟩ | ⟨b1, b2, b3⟩ | ⟨b1, b2, b3, b4⟩ | ⟨b1, b2, b3, b4⟩
        · exact absurd c1 b1
        · exact absurd c2 b2
        · rcases hx0 with ⟨a1, -⟩ | ⟨-, a2, a3⟩
          · exact absurd rfl a1
          · rw [a3, b4]
        · exact absurd b4 hx3
    · exfalso
      have ok := (zWY_0 e1).mp rfl
      rcases eAim_c v a with ⟨c1, c2⟩ | ⟨c1, c2, c3⟩ | ⟨c1, c2, c3⟩
      · exact c1 ok.1
      · exact c2 ok.2.1
      · rcases hx0 with ⟨a1, -⟩ | ⟨-, a2, a3⟩
        · exact a1 c3
        · exact ok.2.2 a2
  · rw [n6, n0] at e3
    have rr := R.playY hcr hq hq8 hc (a := a) e3
    have ok : okY z v a := ⟨by rw [e1]; exact ⟨nI_pos' (by omega), nI_le (b := 7) (by omega) (by decide)⟩, e2, e3⟩
    refine M_play s6 (hM.fc hF1) h15 h24 (fun x2 hx2 hx3 => absurd ((zWY_0 hx2).mpr ok) hx3) (fun w2 _ hM2 hF2 => ?_)
    rw [e1] at hM2 ⊢
    exact ⟨by rw [rr.2], IV.ok hS hx s6 t7 hR hH hL hE hP hn (rr.1.up (by omega)) hW1 hF1 hM2 hF2⟩
end W3b
