/-! the two worlds side by side: what is told, texts, undo, slots -/
theorem c12 {v : Int32} : (0 ≤ v ∧ v ≤ 1) ↔ (0 ≤ v ∧ v < 2) := by
  rw [Int32.le_iff_toInt_le, Int32.le_iff_toInt_le, Int32.lt_iff_toInt_lt, show (1 : Int32).toInt = 1 from rfl, show (2 : Int32).toInt = 2 from rfl]
  omega
theorem nI_c7 {c : Nat} (hc : c < 8) : 0 ≤ nI c ∧ nI c ≤ 7 := ⟨nI_pos' (by omega), nI_le (b := 7) (by omega) (by decide)⟩
theorem nI_c1 {c : Nat} (hc : c < 2) : 0 ≤ nI c ∧ nI c ≤ 1 := ⟨nI_pos' (by omega), nI_le (b := 1) (by omega) (by decide)⟩
section W4
variable {G : Gx} {w : Wd} {xs : Zz} {b L : Nat}
theorem P_of (H : IV b L xs w) (p k : Int32) : PR G b L xs w 72 134 [.int p, .int k] := by
  have hI : IV (b + 400) L xs w := H.up (by omega)
  obtain ⟨y, hs, sl, sv, P, pd, z, spare, past, slots, svM, told, s, t, n, m, spM, tm, hW, hM, ⟨hS, hx⟩, ⟨s6, t7, hP, hn⟩, hR, hH, hL⟩ := H
  have kp : KP L xs w := ⟨hx, _, hM.1⟩
  obtain ⟨l, tt, ss, h, cl, R, hcr⟩ := id hR
  have hK := R.ky
  have h15 := R.1.2.2.2.2
  have h24 := hK.1.2.1
  refine C_of hW hK (fun e => ⟨_, rfl, kp, ?_⟩) (fun i hi e e2 => ⟨_, rfl, kp, ?_⟩) (fun i j hi e hj e2 => ⟨_, rfl, kp, ?_⟩)
  · exact M_of hM.1 hM.2.1 h15 h24 (fun _ => ⟨rfl, hI⟩) (fun i hi f => absurd f (e i hi)) (fun i j hi f => absurd f (e i hi))
  · refine M_of hM.1 hM.2.1 h15 h24 (fun f => absurd e (f i hi)) (fun _ _ _ _ => ⟨rfl, hI⟩) (fun i2 j2 _ _ hj f => absurd (by rw [f]; exact ⟨nI_pos' (by omega), nI_le (b := 5) (by omega) (by decide)⟩) e2)
  · refine M_of hM.1 hM.2.1 h15 h24 (fun f => absurd e (f i hi)) (fun _ _ _ f => absurd (by rw [e2]; exact ⟨nI_pos' (by omega), nI_le (b := 5) (by omega) (by decide)⟩) f) (fun i2 j2 hi2 f1 hj2 f2 => ⟨?_, hI⟩)
    obtain rfl : i2 = i := (nI_eq (by omega) (by omega)).mp (f1.symm.trans e)
    obtain rfl : j2 = j := (nI_eq (by omega) (by omega)).mp (f2.symm.trans e2)
    rw [R.1.1.of hi2 hj2]
theorem P_at (H : IV b L xs w) (v k : Int32) : PR G b L xs w 73 135 [.int v, .int k] := by
  have hI : IV (b + 400) L xs w := H.up (by omega)
  obtain ⟨y, hs, sl, sv, P, pd, z, spare, past, slots, svM, told, s, t, n, m, spM, tm, hW, hM, ⟨hS, hx⟩, ⟨s6, t7, hP, hn⟩, hR, hH, hL⟩ := H
  have kp : KP L xs w := ⟨hx, _, hM.1⟩
  obtain ⟨l, tt, ss, h, cl, R, hcr⟩ := id hR
  have hK := R.ky
  have h15 := R.1.2.2.2.2
  have h24 := hK.1.2.1
  refine C_at hW hK (fun e => ⟨_, rfl, kp, ?_⟩) (fun c hc e => ⟨_, rfl, kp, ?_⟩)
  · exact M_at hM.1 hM.2.1 h15 h24 (fun _ => ⟨rfl, hI⟩) (fun f => absurd (c78.mp f) e) (fun f => absurd (c78.mp f) e)
  · refine M_at hM.1 hM.2.1 h15 h24 (fun f => absurd (by rw [e]; exact nI_c7 hc) f) (fun _ f => ⟨by rw [R.1.1.atB hc f], hI⟩) (fun _ f => ⟨?_, hI⟩)
    rw [e, R.1.1.atA hc f]
theorem P_book (H : IV b L xs w) (r k : Int32) : PR G b L xs w 74 136 [.int r, .int k] := by
  have hI : IV (b + 400) L xs w := H.up (by omega)
  obtain ⟨y, hs, sl, sv, P, pd, z, spare, past, slots, svM, told, s, t, n, m, spM, tm, hW, hM, ⟨hS, hx⟩, ⟨s6, t7, hP, hn⟩, hR, hH, hL⟩ := H
  have kp : KP L xs w := ⟨hx, _, hM.1⟩
  obtain ⟨l, tt, ss, h, cl, R, hcr⟩ := id hR
  have hK := R.ky
  obtain ⟨⟨a1, a2, a3, a4⟩, a5, a6⟩ := id R.2
  refine C_book hW hK (fun e => ⟨_, rfl, kp, ?_⟩) (fun i hi e e2 => ⟨_, rfl, kp, ?_⟩) (fun i j hi e hj e2 => ⟨_, rfl, kp, ?_⟩)
  · exact M_book hM.1 hM.2.1 a5 a4 (fun _ => ⟨rfl, hI⟩) (fun i hi f => absurd f (e i hi)) (fun i j hi f => absurd f (e i hi))
  · exact M_book hM.1 hM.2.1 a5 a4 (fun f => absurd e (f i hi)) (fun _ _ _ _ => ⟨rfl, hI⟩) (fun i2 j2 _ _ hj f => absurd (by rw [f]; exact ⟨nI_pos' (by omega), nI_le (b := 3) (by omega) (by decide)⟩) e2)
  · refine M_book hM.1 hM.2.1 a5 a4 (fun f => absurd e (f i hi)) (fun _ _ _ f => absurd (by rw [e2]; exact ⟨nI_pos' (by omega), nI_le (b := 3) (by omega) (by decide)⟩) f) (fun i2 j2 hi2 f1 hj2 f2 => ⟨?_, hI⟩)
    obtain rfl : i2 = i := (nI_eq (by omega) (by omega)).mp (f1.symm.trans e)
    obtain rfl : j2 = j := (nI_eq (by omega) (by omega)).mp (f2.symm.trans e2)
    rw [a6 i2 hi j2 hj]
theorem P_byValue (H : IV b L xs w) (r : Int32) : PR G b L xs w 75 139 [.int r] := by
  have hI : IV (b + 400) L xs w := H.up (by omega)
  obtain ⟨y, hs, sl, sv, P, pd, z, spare, past, slots, svM, told, s, t, n, m, spM, tm, hW, hM, ⟨hS, hx⟩, ⟨s6, t7, hP, hn⟩, hR, hH, hL⟩ := H
  have kp : KP L xs w := ⟨hx, _, hM.1⟩
  obtain ⟨l, tt, ss, h, cl, R, hcr⟩ := id hR
  refine C_byValue hW R.ky ⟨_, rfl, kp, ?_⟩
  exact M_byValue hM.1 hM.2.1 R.1.2.2.2.2 R.ky.1.2.1 ⟨by rw [R.1.1.bv r], hI⟩
theorem P_lighter (H : IV b L xs w) (v : Int32) : PR G b L xs w 76 140 [.int v] := by
  have hI : IV (b + 400) L xs w := H.up (by omega)
  obtain ⟨y, hs, sl, sv, P, pd, z, spare, past, slots, svM, told, s, t, n, m, spM, tm, hW, hM, ⟨hS, hx⟩, ⟨s6, t7, hP, hn⟩, hR, hH, hL⟩ := H
  have kp : KP L xs w := ⟨hx, _, hM.1⟩
  obtain ⟨l, tt, ss, h, cl, R, hcr⟩ := id hR
  refine C_lighter hW R.ky (fun e => ⟨_, rfl, kp, ?_⟩) (fun e => ⟨_, rfl, kp, ?_⟩)
  · exact M_lighter hM.1 hM.2.1 R.1.2.2.2.2 R.ky.1.2.1 (fun _ => ⟨rfl, hI⟩) (fun f => absurd e f)
  · exact M_lighter hM.1 hM.2.1 R.1.2.2.2.2 R.ky.1.2.1 (fun f => absurd f e) (fun _ => ⟨by rw [R.1.1.li m (Nat.le_refl _)], hI⟩)
theorem P_count (H : IV b L xs w) (v : Int32) : PR G b L xs w 77 142 [.int v] := by
  have hI : IV (b + 400) L xs w := H.up (by omega)
  obtain ⟨y, hs, sl, sv, P, pd, z, spare, past, slots, svM, told, s, t, n, m, spM, tm, hW, hM, ⟨hS, hx⟩, ⟨s6, t7, hP, hn⟩, hR, hH, hL⟩ := H
  have kp : KP L xs w := ⟨hx, _, hM.1⟩
  obtain ⟨l, tt, ss, h, cl, R, hcr⟩ := id hR
  refine C_count hW R.ky ⟨_, rfl, kp, ?_⟩
  refine M_count hM.1 hM.2.1 R.1.2.2.2.2 R.ky.1.2.1 ⟨?_, hI⟩
  rw [R.1.count, hP]
theorem P_ifPlayed (H : IV b L xs w) (v a : Int32) : PR G b L xs w 78 143 [.int v, .int a] := by
  have hI : IV (b + 400) L xs w := H.up (by omega)
  obtain ⟨y, hs, sl, sv, P, pd, z, spare, past, slots, svM, told, s, t, n, m, spM, tm, hW, hM, ⟨hS, hx⟩, ⟨s6, t7, hP, hn⟩, hR, hH, hL⟩ := H
  have kp : KP L xs w := ⟨hx, _, hM.1⟩
  obtain ⟨l, tt, ss, h, cl, R, hcr⟩ := id hR
  have h15 := R.1.2.2.2.2
  have h24 := R.ky.1.2.1
  refine C_ifPlayed hW R.ky (fun e => ⟨_, rfl, kp, ?_⟩) (fun c hc e e2 => ⟨_, rfl, kp, ?_⟩)
  · rcases eAim_c v a with ⟨c1, c2⟩ | ⟨c1, c2, c3⟩ | ⟨c1, c2, c3⟩
    · rw [c2]
      exact M_ifPlayed hM.1 hM.2.1 h15 h24 (fun _ => ⟨rfl, hI⟩) (fun f => absurd f c1) (fun f => absurd f c1)
    · rw [c3]
      exact M_ifPlayed hM.1 hM.2.1 h15 h24 (fun f => absurd c1 f) (fun _ _ => ⟨rfl, hI⟩) (fun _ f => absurd f c2)
    · exact absurd c3 e
  · refine M_ifPlayed hM.1 hM.2.1 h15 h24 (fun f => absurd (by rw [e]; exact nI_c7 hc) f) (fun _ f => absurd e2 f) (fun _ _ => ⟨?_, hI⟩)
    rw [e, R.1.out hc a]
theorem P_load (H : IV b L xs w) (v a : Int32) : PR G b L xs w 79 144 [.int v, .int a] := by
  have hI : IV (b + 400) L xs w := H.up (by omega)
  obtain ⟨y, hs, sl, sv, P, pd, z, spare, past, slots, svM, told, s, t, n, m, spM, tm, hW, hM, ⟨hS, hx⟩, ⟨s6, t7, hP, hn⟩, hR, hH, hL⟩ := H
  have kp : KP L xs w := ⟨hx, _, hM.1⟩
  obtain ⟨l, tt, ss, h, cl, R, hcr⟩ := id hR
  have h15 := R.1.2.2.2.2
  have h24 := R.ky.1.2.1
  refine C_load hW R.ky (fun e => ⟨_, rfl, kp, ?_⟩) (fun c hc e e2 h0 => ⟨_, rfl, kp, ?_⟩) (fun c hc e e2 h0 => ⟨_, rfl, kp, ?_⟩)
  · rcases eAim_c v a with ⟨c1, c2⟩ | ⟨c1, c2, c3⟩ | ⟨c1, c2, c3⟩
    · rw [c2]
      exact M_load hM.1 hM.2.1 h15 h24 (fun _ => ⟨rfl, hI⟩) (fun f => absurd f c1) (fun f => absurd f c1)
    · rw [c3]
      exact M_load hM.1 hM.2.1 h15 h24 (fun f => absurd c1 f) (fun _ _ => ⟨rfl, hI⟩) (fun _ f => absurd f c2)
    · exact absurd c3 e
  · refine M_load hM.1 hM.2.1 h15 h24 (fun f => absurd (by rw [e]; exact nI_c7 hc) f) (fun _ f => absurd e2 f) (fun _ _ => ⟨?_, hI⟩)
    rw [e, R.1.1.top0 hc h0, if_pos rfl]
  · refine M_load hM.1 hM.2.1 h15 h24 (fun f => absurd (by rw [e]; exact nI_c7 hc) f) (fun _ f => absurd e2 f) (fun _ _ => ⟨?_, hI⟩)
    obtain ⟨t1, t2, t3⟩ := R.1.1.top hc h0
    rw [e, t1, if_neg (nI_m6 (by omega)), nI_clamp (by omega), R.1.1.ld hc t2]
theorem P_untilFull (H : IV b L xs w) (hb : b ≤ 900000) : PR G b L xs w 80 145 [] := by
  have hI : IV (b + 400) L xs w := H.up (by omega)
  obtain ⟨y, hs, sl, sv, P, pd, z, spare, past, slots, svM, told, s, t, n, m, spM, tm, hW, hM, ⟨hS, hx⟩, ⟨s6, t7, hP, hn⟩, hR, hH, hL⟩ := H
  have kp : KP L xs w := ⟨hx, _, hM.1⟩
  obtain ⟨l, tt, ss, h, cl, R, hcr⟩ := id hR
  obtain ⟨N, hN, hN1, hN2⟩ := R.1.2.2.2.1.full (by omega)
  obtain ⟨a, ea, a1, a9⟩ := R.1.2.2.2.1.2.1
  have n1 : y 0 1 = z 7 := R.1.2.1.1.2.1
  have n0 : y 1 0 = z 0 := R.1.2.1.2 0 (by decide)
  have n11 : y 1 1 = z 1 := R.1.2.1.2 1 (by decide)
  refine C_untilFull (N := N) hW (n0.trans ea) a1 a9 (by omega) (by rw [n1, n0, n11]; exact hN1) (by rw [n1, n0, n11]; exact hN2) ⟨_, rfl, kp, ?_⟩
  exact M_untilFull hM.1 hM.2.1 (N := N) (by omega) hN1 hN2 ⟨rfl, hI⟩
theorem P_bestColumn (H : IV b L xs w) : PR G b L xs w 81 146 [] := by
  have hI : IV (b + 400) L xs w := H.up (by omega)
  obtain ⟨y, hs, sl, sv, P, pd, z, spare, past, slots, svM, told, s, t, n, m, spM, tm, hW, hM, ⟨hS, hx⟩, ⟨s6, t7, hP, hn⟩, hR, hH, hL⟩ := H
  have kp : KP L xs w := ⟨hx, _, hM.1⟩
  obtain ⟨l, tt, ss, h, cl, R, hcr⟩ := id hR
  refine C_bestColumn hW R.ky ⟨_, rfl, kp, ?_⟩
  refine M_bestColumn hM.1 hM.2.1 R.1.2.2.2.2 R.ky.1.2.1 ⟨?_, hI⟩
  rw [R.1.best 8 (Nat.le_refl _)]
theorem P_costs (H : IV b L xs w) (hb : b ≤ 900000) (v : Int32) : PR G b L xs w 82 148 [.int v] := by
  have hI : IV (b + 400) L xs w := H.up (by omega)
  obtain ⟨y, hs, sl, sv, P, pd, z, spare, past, slots, svM, told, s, t, n, m, spM, tm, hW, hM, ⟨hS, hx⟩, ⟨s6, t7, hP, hn⟩, hR, hH, hL⟩ := H
  have kp : KP L xs w := ⟨hx, _, hM.1⟩
  obtain ⟨l, tt, ss, h, cl, R, hcr⟩ := id hR
  have h15 := R.1.2.2.2.2
  have h24 := R.ky.1.2.1
  obtain ⟨N, hN, hN1, hN2⟩ := R.1.2.2.2.1.full (by omega)
  obtain ⟨a, ea, a1, a9⟩ := R.1.2.2.2.1.2.1
  have n1 : y 0 1 = z 7 := R.1.2.1.1.2.1
  have n0 : y 1 0 = z 0 := R.1.2.1.2 0 (by decide)
  have n11 : y 1 1 = z 1 := R.1.2.1.2 1 (by decide)
  refine C_costs (N := N) hW R.ky (n0.trans ea) a1 a9 (by omega) (by rw [n1, n0, n11]; exact hN1) (by rw [n1, n0, n11]; exact hN2) (fun e => ⟨_, rfl, kp, ?_⟩) (fun c hc e h0 => ⟨_, rfl, kp, ?_⟩) (fun c hc e h0 => ⟨_, rfl, kp, ?_⟩)
  · exact M_costs hM h15 h24 (fun _ => ⟨rfl, hI⟩) (fun f => absurd (c78.mp f) e) (fun _ _ _ f => absurd (c78.mp f) e)
  · exact M_costs hM h15 h24 (fun f => absurd (by rw [e]; exact nI_c7 hc) f) (fun _ _ => ⟨rfl, hI⟩) (fun _ _ _ _ f => absurd (by rw [e]; exact R.1.1.top0 hc h0) f)
  · refine M_costs hM h15 h24 (fun f => absurd (by rw [e]; exact nI_c7 hc) f) (fun _ f => ?_) (fun z2 sp2 w2 _ _ hz2 hM2 hF2 => ⟨?_, ?_⟩)
    · obtain ⟨t1, t2, t3⟩ := R.1.1.top hc h0
      rw [e, t1] at f
      exact absurd f (nI_m6 (by omega))
    · rw [e, R.costs hb hc h0 hN hN1 hN2]
    · exact IV.mk (hW.fm hF2) hM2 (hS.fm hF2) ((hF2 _ (by omega)).trans hx) s6 t7 hP hn ((hR.eq hz2 yEq.rf).up (by omega)) (hH.up (by omega)) (hL.up (by omega))
theorem P_put (H : IV b L xs w) (x : Int64) : PR G b L xs w 83 149 [.long x] := by
  have hI : IV (b + 400) L xs w := H.up (by omega)
  obtain ⟨y, hs, sl, sv, P, pd, z, spare, past, slots, svM, told, s, t, n, m, spM, tm, hW, hM, ⟨hS, hx⟩, ⟨s6, t7, hP, hn⟩, hR, hH, hL⟩ := H
  have kp : KP L xs w := ⟨hx, _, hM.1⟩
  refine C_put hW hP hn (fun e => ⟨_, rfl, kp, ?_⟩) (fun k e e2 e3 => ⟨_, rfl, kp, ?_⟩) (fun k w1 P' e e2 e3 hP' hW1 hF1 => ⟨_, rfl, kp.fc hF1, ?_⟩)
  · refine M_put_ hM hn (fun _ => ⟨rfl, hI⟩) (fun k f f2 => ?_) (fun k w2 f f2 => ?_)
    · rcases e with e | e <;> rw [e] at f <;> cases f
      exact absurd rfl f2
    · rcases e with e | e <;> rw [e] at f <;> cases f
      exact absurd rfl f2
  · refine M_put_ hM hn (fun f => ?_) (fun _ _ _ _ => ⟨rfl, hI⟩) (fun k2 w2 f f2 f3 => ?_)
    · rcases f with f | f <;> rw [e] at f <;> cases f
      exact absurd rfl e2
    · rw [e] at f
      cases f
      omega
  · refine M_put_ (hM.fc hF1) hn (fun f => ?_) (fun k2 f f2 f3 => ?_) (fun k2 w2 f f2 f3 hM2 hF2 => ?_)
    · rcases f with f | f <;> rw [e] at f <;> cases f
      exact absurd rfl e2
    · rw [e] at f
      cases f
      omega
    · rw [e] at f
      cases f
      exact ⟨rfl, IV.mk (hW1.fm hF2) hM2 ((hS.fr hF1).fm hF2) ((hF2 _ (by omega)).trans ((hF1 _ (by omega)).trans hx)) s6 t7 hP' f3 (hR.up (by omega)) (hH.up (by omega)) (hL.up (by omega))⟩
theorem P_wipe (H : IV b L xs w) : PR G b L xs w 84 150 [] := by
  obtain ⟨y, hs, sl, sv, P, pd, z, spare, past, slots, svM, told, s, t, n, m, spM, tm, hW, hM, ⟨hS, hx⟩, ⟨s6, t7, hP, hn⟩, hR, hH, hL⟩ := H
  have kp : KP L xs w := ⟨hx, _, hM.1⟩
  refine C_wipe hW (fun w1 P' hP' hW1 hF1 => ⟨_, rfl, kp.fc hF1, ?_⟩)
  refine M_wipe (hM.fc hF1) (fun w2 hM2 hF2 => ⟨by rw [hP], ?_⟩)
  rw [← nI_0] at hM2
  exact IV.mk (hW1.fm hF2) hM2 ((hS.fr hF1).fm hF2) ((hF2 _ (by omega)).trans ((hF1 _ (by omega)).trans hx)) s6 t7 (hP'.trans nI_0.symm) (Nat.zero_le _) (hR.up (by omega)) (hH.up (by omega)) (hL.up (by omega))
theorem P_fault (H : IV b L xs w) : PR G b L xs w 85 157 [] := by
  obtain ⟨y, hs, sl, sv, P, pd, z, spare, past, slots, svM, told, s, t, n, m, spM, tm, hW, hM, ⟨hS, hx⟩, ⟨s6, t7, hP, hn⟩, hR, hH, hL⟩ := H
  have kp : KP L xs w := ⟨hx, _, hM.1⟩
  refine C_fault hW hP hn (fun w1 P' hP' hW1 hF1 => ⟨_, rfl, kp.fc hF1, ?_⟩)
  refine M_fault (hM.fc hF1) hn (fun w2 told' sp' tm' hM2 hF2 => ⟨by rw [ff_rp (told := told) hn], ?_⟩)
  exact IV.mk (hW1.fm hF2) hM2 ((hS.fr hF1).fm hF2) ((hF2 _ (by omega)).trans ((hF1 _ (by omega)).trans hx)) s6 t7 hP' hn (hR.up (by omega)) (hH.up (by omega)) (hL.up (by omega))
theorem P_carryOut (H : IV b L xs w) : PR G b L xs w 86 160 [] := by
  obtain ⟨y, hs, sl, sv, P, pd, z, spare, past, slots, svM, told, s, t, n, m, spM, tm, hW, hM, ⟨hS, hx⟩, ⟨s6, t7, hP, hn⟩, hR, hH, hL⟩ := H
  have kp : KP L xs w := ⟨hx, _, hM.1⟩
  obtain ⟨l, tt, ss, h, cl, R, hcr⟩ := id hR
  have h15 := R.1.2.2.2.2
  have h24 := R.ky.1.2.1
  have hle := rp_le (pd := pd) (told := told) (t := n)
  refine C_carryOut hW t7 s6 hP hn hR told (fun g w1 P' hP' hW1 hF1 => ⟨_, rfl, kp.fc hF1, ?_⟩) (fun g i w1 y' yb P' hP' hi h1 h2 hE hR1 hW1 hF1 => ⟨_, rfl, kp.fc hF1, ?_⟩)
  · refine M_carryOut s6 (hM.fc hF1) h15 h24 hn (fun w2 told' sp' tm' _ hM2 hF2 => ⟨rfl, ?_⟩) (fun w2 i sp' tm' f => absurd f g)
    exact IV.mk (hW1.fm hF2) hM2 ((hS.fr hF1).fm hF2) ((hF2 _ (by omega)).trans ((hF1 _ (by omega)).trans hx)) s6 t7 hP' hn (hR.up (by omega)) (hH.up (by omega)) (hL.up (by omega))
  · refine M_carryOut s6 (hM.fc hF1) h15 h24 hn (fun w2 told' sp' tm' f => absurd g f) (fun w2 i2 sp' tm' _ hi2 k1 k2 hM2 hF2 => ?_)
    obtain rfl : i2 = i := by
      rcases Nat.lt_trichotomy i2 i with q | q | q
      · exact absurd (h1 i2 q) (k2 (by omega))
      · exact q
      · exact absurd (k1 i q) (h2 (by omega))
    rw [← nI_0] at hM2
    exact ⟨rfl, IV.ok hS hx s6 t7 hR hH hL hE (hP'.trans nI_0.symm) (Nat.zero_le _) (hR1.up (by omega)) hW1 hF1 hM2 hF2⟩
theorem P_undo (H : IV b L xs w) : PR G b L xs w 88 102 [] := by
  have hI : IV (b + 400) L xs w := H.up (by omega)
  obtain ⟨y, hs, sl, sv, P, pd, z, spare, past, slots, svM, told, s, t, n, m, spM, tm, hW, hM, ⟨hS, hx⟩, ⟨s6, t7, hP, hn⟩, hR, hH, hL⟩ := H
  have kp : KP L xs w := ⟨hx, _, hM.1⟩
  refine C_undo hW t7 s6 (fun e => ⟨_, rfl, kp, ?_⟩) (fun r w1 y' e hE hW1 hF1 => ⟨_, rfl, kp.fc hF1, ?_⟩)
  · exact M_undo s6 hM (fun _ => ⟨rfl, hI⟩) (fun r w2 f => by omega)
  · refine M_undo s6 (hM.fc hF1) (fun f => by omega) (fun r2 w2 f hM2 hF2 => ?_)
    obtain rfl : r2 = r := by omega
    obtain ⟨m2, e2⟩ := hH r2 (by omega)
    rw [show (t + 7 - s + r2) % 7 = (t + 6) % 7 by omega] at e2
    refine ⟨rfl, IV.mk (m := m2) (hW1.fm hF2) hM2 ((hS.fr hF1).fm hF2) ((hF2 _ (by omega)).trans ((hF1 _ (by omega)).trans hx)) (by omega) (Nat.mod_lt _ (by decide)) hP hn ((e2.eq (fun j hj => ?_) hE).up (by omega)) (fun i hi => ?_) (hL.up (by omega))⟩
    · rw [pk_cpy_in (by omega) (by omega), Nat.sub_zero]
    · obtain ⟨m3, e3⟩ := hH i (by omega)
      rw [show (t + 7 - s + i) % 7 = ((t + 6) % 7 + 7 - r2 + i) % 7 by omega] at e3
      exact ⟨m3, e3.up (by omega)⟩
theorem P_save (H : IV b L xs w) (v : Int32) : PR G b L xs w 89 103 [.int v] := by
  have hI : IV (b + 400) L xs w := H.up (by omega)
  obtain ⟨y, hs, sl, sv, P, pd, z, spare, past, slots, svM, told, s, t, n, m, spM, tm, hW, hM, ⟨hS, hx⟩, ⟨s6, t7, hP, hn⟩, hR, hH, hL⟩ := H
  have kp : KP L xs w := ⟨hx, _, hM.1⟩
  obtain ⟨l, tt, ss, h, cl, R, hcr⟩ := id hR
  refine C_save hW (fun e => ⟨_, rfl, kp, ?_⟩) (fun r w1 yb hr e hE hW1 hF1 => ⟨_, rfl, kp.fc hF1, ?_⟩)
  · exact M_save hM (fun _ => ⟨rfl, hI⟩) (fun r w2 hr f => absurd (by rw [f]; exact c12.mp (nI_c1 (by omega))) e)
  · refine M_save (hM.fc hF1) (fun f => absurd (by rw [e]; exact nI_c1 hr) f) (fun r2 w2 hr2 f hM2 hF2 => ?_)
    obtain rfl : r2 = r := (nI_eq (by omega) (by omega)).mp (f.symm.trans e)
    refine ⟨by rw [R.1.2.2.2.2, R.1.1.1.1], IV.mk (hW1.fm hF2) hM2 ((hS.fr hF1).fm hF2) ((hF2 _ (by omega)).trans ((hF1 _ (by omega)).trans hx)) s6 t7 hP hn (hR.up (by omega)) (hH.up (by omega)) (fun j hj => ?_)⟩
    obtain ⟨l1, l2, l3⟩ := hL j hj
    by_cases q : j = r2
    · subst q
      rw [pk_us, pk_us, show sq sl j yb j = yb from if_pos rfl]
      refine ⟨rfl, Or.inr rfl, fun _ => ⟨m, (hR.eq (fun i hi => ?_) hE).up (by omega)⟩⟩
      rw [pk_cpy_in (by omega) (by omega)]
      refine congrArg z ?_
      omega
    · rw [pk_un q, pk_un q, show sq sl r2 yb j = sl j from if_neg q]
      refine ⟨l1, l2, fun e1 => ?_⟩
      obtain ⟨m3, e3⟩ := l3 e1
      refine ⟨m3, (e3.eq (fun i hi => ?_) yEq.rf).up (by omega)⟩
      rw [pk_cpy_out (by omega)]
theorem P_restore (H : IV b L xs w) (v : Int32) : PR G b L xs w 90 104 [.int v] := by
  have hI : IV (b + 400) L xs w := H.up (by omega)
  obtain ⟨y, hs, sl, sv, P, pd, z, spare, past, slots, svM, told, s, t, n, m, spM, tm, hW, hM, ⟨hS, hx⟩, ⟨s6, t7, hP, hn⟩, hR, hH, hL⟩ := H
  have kp : KP L xs w := ⟨hx, _, hM.1⟩
  refine C_restore hW t7 s6 (fun r hr => by rw [(hL r hr).1]; exact (hL r hr).2.1) (fun r hr e => ?_) (fun e => ⟨_, rfl, kp, ?_⟩) (fun r hr e e2 => ⟨_, rfl, kp, ?_⟩) (fun r w1 yb y' hr e e2 hE hE2 hW1 hF1 => ⟨_, rfl, kp.fc hF1, ?_⟩)
  · rw [(hL r hr).1] at e
    obtain ⟨m2, l, tt, ss, h, cl, R, -⟩ := (hL r hr).2.2 e
    rw [R.1.1.1.1]
    have := R.1.1.1.2.1
    exact nI_pos (by omega)
  · exact M_restore hM rfl s6 (fun _ => ⟨rfl, hI⟩) (fun r hr f => absurd (by rw [f]; exact c12.mp (nI_c1 (by omega))) e) (fun r w2 hr f => absurd (by rw [f]; exact c12.mp (nI_c1 (by omega))) e)
  · refine M_restore hM rfl s6 (fun f => absurd (by rw [e]; exact nI_c1 hr) f) (fun _ _ _ _ => ⟨rfl, hI⟩) (fun r2 w2 hr2 f f2 => ?_)
    obtain rfl : r2 = r := (nI_eq (by omega) (by omega)).mp (f.symm.trans e)
    rw [(hL r2 hr).1] at e2
    exact absurd e2 f2
  · obtain ⟨l1, l2, l3⟩ := hL r hr
    refine M_restore (hM.fc hF1) rfl s6 (fun f => absurd (by rw [e]; exact nI_c1 hr) f) (fun r2 hr2 f f2 => ?_) (fun r2 w2 hr2 f f2 hM2 hF2 => ?_)
    · obtain rfl : r2 = r := (nI_eq (by omega) (by omega)).mp (f.symm.trans e)
      rw [l1, f2] at e2
      exact absurd e2 (by decide)
    · obtain rfl : r2 = r := (nI_eq (by omega) (by omega)).mp (f.symm.trans e)
      obtain ⟨m2, e3⟩ := l3 (l1.symm.trans e2)
      have e4 := e3.eq (z' := va_cpy slots z (201 * r2) 0 201) (fun j hj => by rw [pk_cpy_in (by omega) (by omega), Nat.sub_zero]) hE2
      obtain ⟨l, tt, ss, h, cl, R, -⟩ := id e4
      have e15 : slots (201 * r2 + 15) = nI m2 := by
        obtain ⟨_, _, _, _, _, R3, _⟩ := e3
        exact R3.1.2.2.2.2
      exact ⟨by rw [e15, R.1.1.1.1], IV.ok hS hx s6 t7 hR hH hL hE hP hn (e4.up (by omega)) hW1 hF1 hM2 hF2⟩
end W4
