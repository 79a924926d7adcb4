/-! SOUNDNESS of the step over the machine: the theorem -/
theorem fTbl_own : ∀ e ∈ fTbl, (vwCl[e.2.1]?).all (fun q => decide ((q.2.1 e.2.2.1).1 = q.1)) = true := by decide +kernel
theorem fTbl_nst : ∀ e ∈ fTbl, (decide (e.2.2.2 = true → ¬ e.2.1 = e.1.1)) = true := by decide +kernel
theorem cNo : ¬ Cond.classLink "" 0 "" ∈ lw_tbl := by decide +kernel
theorem acI : Cond.arrayClass .int ∈ lw_tbl := by decide +kernel
theorem acZ : Cond.arrayClass .boolean ∈ lw_tbl := by decide +kernel
theorem acC : Cond.arrayClass .char ∈ lw_tbl := by decide +kernel
section SND3
variable {G : Gx} {p : Program} {e : Env} {R : Room} {s : State} {m : MethodId} {args : Array Value} {below : List Frame} {meth : Method} {c : Code} {Z : State → Prop} {cc : ByteArray} {o mL d n0 nm : Nat} {ini : Bool} {rt : Option FieldType} {Rt : Option Value → Nat → Wd → Prop}
theorem st_split (G : Gx) (st : List Value) (na : Nat) : st.map (gtv G) = (((st.take na).reverse).map (gtv G)).reverse ++ (st.drop na).map (gtv G) := by
  rw [List.map_reverse, List.reverse_reverse, ← List.map_append, List.take_append_drop]
theorem mEx_of {o idx mi kd na : Nat} (h : rM o idx = some (mi, kd, na)) (hk : kd < 9) : mi < mrL.length ∧ ((mr mi).1.cls ≠ "java/lang/invoke/MethodHandle" ∧ (mr mi).1.cls ≠ "java/lang/invoke/VarHandle") ∧ (∀ sig, parseMethodDescriptor (mr mi).1.desc = some sig → na = sig.parameters.length + (if kd < 2 then 0 else 1)) ∧ (mr mi).2.2.1 ≤ 18 ∧ (mr mi).1.cls = nmO (mr mi).2.2.2.2 ∧ (kd = 2 ∨ kd = 3 → (mr mi).1.name = "<init>" ∧ (mr mi).2.2.2.1 = none) := by
  have h1 := mTbl_ex _ (lk_mem h)
  simp only [mEx, Bool.or_eq_true, Bool.and_eq_true, decide_eq_true_eq] at h1
  rcases h1 with h1 | ⟨⟨⟨⟨⟨⟨a1, a2⟩, a3⟩, a4⟩, a5⟩, a6⟩, a7⟩
  · omega
  · refine ⟨a1, a3, fun sig hs => ?_, a5, a6, fun hq => ?_⟩
    · rw [hs] at a4
      exact (Option.some.inj a4).symm
    · rcases a7 with a7 | a7
      · omega
      · exact a7
theorem call_go {k n : Nat} {L st : List Value} {na : Nat} {pc : Nat} {av : Array Value} (hn : n0 ≤ n ∧ n ≤ nm) (hk : n + k ≤ nm) (hL : L.length = mL) {H : Heap} {locs : List Loc} {ls : Array Slot} (hS : va_S (gA G) s.heap H locs) (hl : lvL G ls L)
    (hr : va_Run p (gL G) e R s m args below meth c H locs (n - n0) (2000 * (n - n0)) k (2000 * k) (F0 m pc ls (st.map (gtv G))) ((st.drop na).map (gtv G)) (gQc G (n + k) (fun r w' => Jm G p e R s m args below meth c Z mL n0 nm (pc + 3) L (r.toList ++ st.drop na) (n + k) w') av) (gA G)) :
    W p (gL G) e R s m args below meth c H locs (n - n0) (2000 * (n - n0)) Z (F0 m pc ls (st.map (gtv G))) := by
  refine g_call hr hS fun r w' H1 locs1 hQ hC1 hS1 => ?_
  have h1 := hQ (by omega) hL H1 locs1 ls hC1 hS1 hl
  have e1 : (r.toList ++ st.drop na).map (gtv G) = (r.map (gtv G)).toList ++ (st.drop na).map (gtv G) := by cases r <;> simp
  rw [e1] at h1
  exact W.widen (k := n + k - n0) (n := 2000 * (n + k - n0)) (by omega) (by omega) h1
theorem snd_st (C : Cx G p R s m args meth c cc o mL d n0 nm ini) {K : Kt} (hK : ∀ pc L st n w, K pc L st n w → Jm G p e R s m args below meth c Z mL n0 nm pc L st n w) {pc idx : Nat} {L st : List Value} {n : Nat} {w : Wd}
    (hdg : decode cc pc = .ok (.invokestatic idx, 3)) (hk : kkd 2 (rM o idx)) (h : ivk G d nm (Jm G p e R s m args below meth c Z mL n0 nm) K (rM o idx) (pc + 3) L st n w) : Jm G p e R s m args below meth c Z mL n0 nm pc L st n w := by
  obtain ⟨hx, hb, hml, hown, hts, hKn, hgb, hRf, hRl, hRc, hRs, hnm, hin⟩ := C
  have hgl : gB G ≤ s.heap.size := by omega
  intro hn hL H locs ls hC hS hl
  cases hr : rM o idx with
  | none => rw [hr] at h; exact h.elim
  | some q =>
    obtain ⟨mi, kd, na⟩ := q
    rw [hr] at hk h
    have hok := mTbl_ok _ (lk_mem hr)
    dsimp only at hok
    have hsz : ls.size = mL := hl.1.trans hL
    rcases hk with rfl | rfl | rfl | rfl | rfl
    · obtain ⟨h1, h2, -, k, h3, hT⟩ := h
      obtain ⟨m1, m2, m3, m4, m5, m6⟩ := mEx_of hr (by omega)
      refine W_sz fun hz => ?_
      have hlo := Cur_lo hC (Nat.le_trans hgl hS.1)
      have hHs : H.size = gB G + n := by omega
      refine call_go hn h3 hL hS hl (va_runS (own := nmO o) (index := idx) (n := na) (nL := mL) (As := ((st.take na).reverse).map (gtv G)) ⟨hx, hb, hml, hown, hts⟩ hT ⟨⟨rfl, rfl, hRf, by show 8 + ((mr mi).2.2.1 + 11) + 37 * d ≤ _; omega, pay_in hts (wLs_good m1), List.mem_cons_self, hts _ (gd_of (mr_code m1) rfl), hts _ (gd_of (hok _ (by simp [kWs])) rfl), m2, fun sig hs => by have := m3 sig hs; simpa using this, hts _ (gd_of (hok _ (by simp [kWs])) rfl)⟩, hts _ (gd_of (hok _ (by simp [kWs])) rfl)⟩ ⟨gPc_blind, fun U hU hW => ⟨rfl, by rw [hU]; exact hC, Kn_warm hU hW hS hgl hKn, by rw [hU]; exact hHs⟩⟩ rfl (by simp; omega) hsz (st_split G st na) (lv_room (Nat.le_trans (cat_le G _) (by omega))) hdg ⟨by omega, by omega⟩)
    · obtain ⟨h1, h2, -, k, h3, hT⟩ := h
      obtain ⟨m1, m2, m3, m4, m5, m6⟩ := mEx_of hr (by omega)
      refine W_sz fun hz => ?_
      have hlo := Cur_lo hC (Nat.le_trans hgl hS.1)
      have hHs : H.size = gB G + n := by omega
      refine call_go hn h3 hL hS hl (va_runSN (own := nmO o) (index := idx) (n := na) (nL := mL) (As := ((st.take na).reverse).map (gtv G)) ⟨hx, hb, hml, hown, hts⟩ hT ⟨⟨⟨rfl, rfl, hRf, by show 8 + ((mr mi).2.2.1 + 11) + 37 * d ≤ _; omega, pay_in hts (wLs_good m1), List.mem_cons_self⟩, hts _ (gd_of (mr_code m1) rfl), hts _ (gd_of (hok _ (by simp [kWs])) rfl), m2, fun sig hs => by have := m3 sig hs; simpa using this, (hKn.2.2.2.1 _ (hok _ List.mem_cons_self) rfl).use rfl⟩, hts _ (gd_of (hok _ (by simp [kWs])) rfl), trivial⟩ ⟨gPc_blind, fun U hU hW => ⟨rfl, by rw [hU]; exact hC, Kn_warm hU hW hS hgl hKn, by rw [hU]; exact hHs⟩⟩ rfl (by simp; omega) hsz (st_split G st na) (lv_room (Nat.le_trans (cat_le G _) (by omega))) hdg ⟨by omega, by omega⟩)
    · obtain ⟨a, sp, b, dp, q, r, rfl, h1, h2, h⟩ := sCpy_inv h
      obtain ⟨k0, l0, f, l1, g, ha, hb1, hk0, c1, c2, c3, c4, c5⟩ := isCp_inv h2
      rw [ha, hb1] at h
      have fin : ∀ (H1 : Heap) (locs1 : List Loc), va_P (gD G) vwCl ((gwl G n w).set b (gal G b, .inl (gC G 0, l1, .inl (va_cpy f g sp.toNatClampNeg dp.toNatClampNeg q.toNatClampNeg)))) H1 → va_S (gA G) s.heap H1 locs1 → W p (gL G) e R s m args below meth c H1 locs1 (n - n0) (2000 * (n - n0)) Z (F0 m (pc + 3) ls (r.map (gtv G))) := fun H1 locs1 hP1 hS1 => hK _ _ _ _ _ h hn hL H1 locs1 ls (Cur_up (e1 := .inl ((0, l1), va_cpy f g sp.toNatClampNeg dp.toNatClampNeg q.toNatClampNeg)) hC hb1 rfl rfl hP1) hS1 hl
      have hlc : ((r.map (gtv G)).map fun v => v.category).sum + (nativeFrameWords "java/lang/System" "arraycopy" 5 + 11) ≤ R.locals := by
        have := cat_le G r
        have e3 : nativeFrameWords "java/lang/System" "arraycopy" 5 ≤ 16 := by decide +kernel
        omega
      rcases hk0 with rfl | rfl
      · exact va_copyi hx hb (hml.trans hsz.symm) hown (hts _ (gd_of (hok _ (by simp [kWs])) rfl)) (hts _ (gd_of (hok _ (by simp [kWs])) rfl)) (hts _ (gd_of (hok _ (by simp [kWs])) rfl)) (hts _ (gd_of (hok _ (by simp [kWs])) rfl)) hKn.1 hC.1 gwl_D hS a b 0 0 (gwl_at hC.2 ha rfl) (gwl_at hC.2 hb1 rfl) rfl rfl rfl c1 c2 c3 c4 c5 (fun i _ => rfl) (by omega) hlc hdg (fun H1 locs1 hP1 _ hS1 => fin H1 locs1 hP1 hS1)
      · obtain ⟨j, hj, e1, rfl, rfl⟩ := gdm_ro hC.2 ha
        have hlt := (hKn.2.1 j hj).2
        show W p (gL G) e R s m args below meth c H locs (n - n0) (2000 * (n - n0)) Z (F0 m pc ls (.int q :: .int dp :: .ref (gal G b) :: .int sp :: .ref (gal G a) :: r.map (gtv G)))
        rw [e1]
        exact va_copyx hx hb (hml.trans hsz.symm) hown (hts _ (gd_of (hok _ (by simp [kWs])) rfl)) (hts _ (gd_of (hok _ (by simp [kWs])) rfl)) (hts _ (gd_of (hok _ (by simp [kWs])) rfl)) (hts _ (gd_of (hok _ (by simp [kWs])) rfl)) hKn.1 hC.1 gwl_D hS (hKn.2.1 j hj).1 (Nat.lt_of_lt_of_le hlt hgl) (Nat.not_le.mpr hlt) b 0 (gwl_at hC.2 hb1 rfl) rfl c1 c2 c3 c4 c5 (by omega) hlc hdg (fun H1 locs1 hP1 _ hS1 => fin H1 locs1 hP1 hS1)
    · obtain ⟨a, b, r, rfl, h1, h⟩ := s2I_inv h
      have := cat_le G r
      exact va_mmax hx hb (hml.trans hsz.symm) hown (hts _ (gd_of (hok _ (by simp [kWs])) rfl)) (hts _ (gd_of (hok _ (by simp [kWs])) rfl)) (hts _ (gd_of (hok _ (by simp [kWs])) rfl)) (hts _ (gd_of (hok _ (by simp [kWs])) rfl)) (by omega) (by omega) (by omega) (by omega) hdg (hK _ _ _ _ _ h hn hL H locs ls hC hS hl)
    · obtain ⟨a, b, r, rfl, h1, h⟩ := s2I_inv h
      have := cat_le G r
      exact va_mmin hx hb (hml.trans hsz.symm) hown (hts _ (gd_of (hok _ (by simp [kWs])) rfl)) (hts _ (gd_of (hok _ (by simp [kWs])) rfl)) (hts _ (gd_of (hok _ (by simp [kWs])) rfl)) (hts _ (gd_of (hok _ (by simp [kWs])) rfl)) (by omega) (by omega) (by omega) (by omega) hdg (hK _ _ _ _ _ h hn hL H locs ls hC hS hl)
theorem isRc_inv {w : Wd} {mi : Nat} {l : List Value} (h : isRc w mi l) : ∃ b l' fs, l = .ref b :: l' ∧ w b = some (.inr (.inr ((mr mi).2.2.2.2, fs))) := by
  match l, h with
  | .ref b :: l', h =>
    obtain ⟨fs, hf⟩ := isO_inv h
    exact ⟨b, l', fs, rfl, hf⟩
theorem st_split2 (G : Gx) {st : List Value} {na b : Nat} {l : List Value} (h : (st.take na).reverse = .ref b :: l) : st.map (gtv G) = (l.map (gtv G)).reverse ++ .ref (gal G b) :: (st.drop na).map (gtv G) := by
  rw [st_split G st na, h, List.map_cons, List.reverse_cons, List.append_assoc]
  rfl
theorem snd_sp (C : Cx G p R s m args meth c cc o mL d n0 nm ini) {K : Kt} (hK : ∀ pc L st n w, K pc L st n w → Jm G p e R s m args below meth c Z mL n0 nm pc L st n w) {pc idx : Nat} {L st : List Value} {n : Nat} {w : Wd}
    (hdg : decode cc pc = .ok (.invokespecial idx, 3)) (hk : kkd 0 (rM o idx)) (h : ivk G d nm (Jm G p e R s m args below meth c Z mL n0 nm) K (rM o idx) (pc + 3) L st n w) : Jm G p e R s m args below meth c Z mL n0 nm pc L st n w := by
  obtain ⟨hx, hb, hml, hown, hts, hKn, hgb, hRf, hRl, hRc, hRs, hnm, hin⟩ := C
  have hgl : gB G ≤ s.heap.size := by omega
  intro hn hL H locs ls hC hS hl
  cases hr : rM o idx with
  | none => rw [hr] at h; exact h.elim
  | some q =>
    obtain ⟨mi, kd, na⟩ := q
    rw [hr] at hk h
    have hok := mTbl_ok _ (lk_mem hr)
    dsimp only at hok
    have hsz : ls.size = mL := hl.1.trans hL
    rcases hk with rfl | rfl | rfl
    · obtain ⟨h1, h2, h0, k, h3, hT⟩ := h
      obtain ⟨m1, m2, m3, m4, m5, m6⟩ := mEx_of hr (by omega)
      obtain ⟨m7, m8⟩ := m6 (by omega)
      obtain ⟨b, l, fs, e0, hwb⟩ := isRc_inv (h0 (by omega))
      have hln : (st.take na).reverse.length = l.length + 1 := by rw [e0]; rfl
      rw [List.length_reverse, List.length_take] at hln
      refine W_sz fun hz => ?_
      have hlo := Cur_lo hC (Nat.le_trans hgl hS.1)
      have hHs : H.size = gB G + n := by omega
      rw [e0] at hT
      refine call_go hn h3 hL hS hl (va_runI (own := nmO o) (index := idx) (n := na - 1) (nL := mL) (b := gal G b) (As := l.map (gtv G)) ⟨hx, hb, hml, hown, hts⟩ hT ⟨⟨rfl, rfl, hRf, by show 8 + ((mr mi).2.2.1 + 11) + 37 * d ≤ _; omega, pay_in hts (wLs_good m1), by rw [← m8]; exact List.mem_cons_self, by rw [← m8]; exact hts _ (gd_of (mr_code m1) rfl), hts _ (gd_of (hok _ (by simp [kWs])) rfl), m2, fun sig hs => by have := m3 sig hs; simp at this; omega, hts _ (gd_of (hok _ (by simp [kWs])) rfl)⟩, m7, hts _ (gd_of (hok _ (by simp [kWs])) rfl)⟩ ⟨gPc_blind, fun U hU hW => ⟨rfl, by rw [hU]; exact hC, Kn_warm hU hW hS hgl hKn, by rw [hU]; exact hHs⟩⟩ rfl (by simp; omega) hsz (st_split2 G e0) (lv_room (Nat.le_trans (cat_le G _) (by omega))) hdg ⟨by omega, by omega⟩)
    · obtain ⟨h1, h2, h0, k, h3, hT⟩ := h
      obtain ⟨m1, m2, m3, m4, m5, m6⟩ := mEx_of hr (by omega)
      obtain ⟨m7, m8⟩ := m6 (by omega)
      obtain ⟨b, l, fs, e0, hwb⟩ := isRc_inv (h0 (by omega))
      have hln : (st.take na).reverse.length = l.length + 1 := by rw [e0]; rfl
      rw [List.length_reverse, List.length_take] at hln
      refine W_sz fun hz => ?_
      have hlo := Cur_lo hC (Nat.le_trans hgl hS.1)
      have hHs : H.size = gB G + n := by omega
      rw [e0] at hT
      refine call_go hn h3 hL hS hl (va_runIN (own := nmO o) (index := idx) (n := na - 1) (nL := mL) (b := gal G b) (As := l.map (gtv G)) ⟨hx, hb, hml, hown, hts⟩ hT ⟨⟨⟨rfl, rfl, hRf, by show 8 + ((mr mi).2.2.1 + 11) + 37 * d ≤ _; omega, pay_in hts (wLs_good m1), by rw [← m8]; exact List.mem_cons_self⟩, by rw [← m8]; exact hts _ (gd_of (mr_code m1) rfl), hts _ (gd_of (hok _ (by simp [kWs])) rfl), m2, fun sig hs => by have := m3 sig hs; simp at this; omega, (hKn.2.2.2.1 _ (hok _ List.mem_cons_self) rfl).use rfl⟩, m7, hts _ (gd_of (hok _ (by simp [kWs])) rfl)⟩ ⟨gPc_blind, fun U hU hW => ⟨rfl, by rw [hU]; exact hC, Kn_warm hU hW hS hgl hKn, by rw [hU]; exact hHs⟩⟩ rfl (by simp; omega) hsz (st_split2 G e0) (lv_room (Nat.le_trans (cat_le G _) (by omega))) hdg ⟨by omega, by omega⟩)
    · obtain ⟨a, r, rfl, h1, h⟩ := s1A_inv h
      have := cat_le G r
      refine W.objInit hx hb hown (hts _ (gd_of (hok _ (by simp [kWs])) rfl)) (hts _ (gd_of (hok _ (by simp [kWs])) rfl)) (hts _ (gd_of (hok _ (by simp [kWs])) rfl)) rfl (hsz.trans hml.symm) rfl hdg (by omega) ?_ (hK _ _ _ _ _ h hn hL H locs ls hC hS hl)
      show 2 * 0 + ((r.map (gtv G)).map fun v => v.category).sum + 12 ≤ R.locals
      omega
theorem snd_vi (C : Cx G p R s m args meth c cc o mL d n0 nm ini) {K : Kt} (hK : ∀ pc L st n w, K pc L st n w → Jm G p e R s m args below meth c Z mL n0 nm pc L st n w) {pc idx : Nat} {L st : List Value} {n : Nat} {w : Wd}
    (hdg : decode cc pc = .ok (.invokevirtual idx, 3)) (hk : kkd 1 (rM o idx)) (h : ivk G d nm (Jm G p e R s m args below meth c Z mL n0 nm) K (rM o idx) (pc + 3) L st n w) : Jm G p e R s m args below meth c Z mL n0 nm pc L st n w := by
  obtain ⟨hx, hb, hml, hown, hts, hKn, hgb, hRf, hRl, hRc, hRs, hnm, hin⟩ := C
  have hgl : gB G ≤ s.heap.size := by omega
  intro hn hL H locs ls hC hS hl
  cases hr : rM o idx with
  | none => rw [hr] at h; exact h.elim
  | some q =>
    obtain ⟨mi, kd, na⟩ := q
    rw [hr] at hk h
    have hok := mTbl_ok _ (lk_mem hr)
    dsimp only at hok
    have hsz : ls.size = mL := hl.1.trans hL
    rcases hk with rfl | rfl
    · obtain ⟨h1, h2, h0, k, h3, hT⟩ := h
      obtain ⟨m1, m2, m3, m4, m5, m6⟩ := mEx_of hr (by omega)
      obtain ⟨b, l, fs, e0, hwb⟩ := isRc_inv (h0 (by omega))
      have hln : (st.take na).reverse.length = l.length + 1 := by rw [e0]; rfl
      rw [List.length_reverse, List.length_take] at hln
      refine W_sz fun hz => ?_
      have hlo := Cur_lo hC (Nat.le_trans hgl hS.1)
      have hHs : H.size = gB G + n := by omega
      rw [e0] at hT
      have hat := gwl_at hC.2 hwb rfl
      obtain ⟨q, hq, -⟩ := hC.1 b _ hat
      have hrv := va_recv hKn.1 hC.1 hq hat
      rw [(cl_ok hq).2.2.2.2.2, ← m5] at hrv
      refine call_go hn h3 hL hS hl (va_runV (C := (mr mi).1.cls) (own := nmO o) (index := idx) (n := na - 1) (nL := mL) (b := gal G b) (As := l.map (gtv G)) ⟨hx, hb, hml, hown, hts⟩ hT ⟨⟨rfl, rfl, hRf, by show 8 + ((mr mi).2.2.1 + 11) + 37 * d ≤ _; omega, pay_in hts (wLs_good m1), List.mem_cons_self, hts _ (gd_of (mr_code m1) rfl), hts _ (gd_of (hok _ (by simp [kWs])) rfl), m2, fun sig hs => by have := m3 sig hs; simp at this; omega, hts _ (gd_of (hok _ (by simp [kWs])) rfl)⟩, hts _ (gd_of (hok _ (by simp [kWs])) rfl), hts _ (gd_of (hok _ (by simp [kWs])) rfl)⟩ ⟨gPc_blind, hrv, fun U hU hW => ⟨rfl, by rw [hU]; exact hC, Kn_warm hU hW hS hgl hKn, by rw [hU]; exact hHs⟩⟩ rfl (by simp; omega) hsz (st_split2 G e0) (lv_room (Nat.le_trans (cat_le G _) (by omega))) hdg ⟨by omega, by omega⟩)
    · obtain ⟨h1, h2, h0, k, h3, hT⟩ := h
      obtain ⟨m1, m2, m3, m4, m5, m6⟩ := mEx_of hr (by omega)
      obtain ⟨b, l, fs, e0, hwb⟩ := isRc_inv (h0 (by omega))
      have hln : (st.take na).reverse.length = l.length + 1 := by rw [e0]; rfl
      rw [List.length_reverse, List.length_take] at hln
      refine W_sz fun hz => ?_
      have hlo := Cur_lo hC (Nat.le_trans hgl hS.1)
      have hHs : H.size = gB G + n := by omega
      rw [e0] at hT
      have hat := gwl_at hC.2 hwb rfl
      obtain ⟨q, hq, -⟩ := hC.1 b _ hat
      have hrv := va_recv hKn.1 hC.1 hq hat
      rw [(cl_ok hq).2.2.2.2.2, ← m5] at hrv
      refine call_go hn h3 hL hS hl (va_runVN (C := (mr mi).1.cls) (own := nmO o) (index := idx) (n := na - 1) (nL := mL) (b := gal G b) (As := l.map (gtv G)) ⟨hx, hb, hml, hown, hts⟩ hT ⟨⟨⟨rfl, rfl, hRf, by show 8 + ((mr mi).2.2.1 + 11) + 37 * d ≤ _; omega, pay_in hts (wLs_good m1), List.mem_cons_self⟩, hts _ (gd_of (mr_code m1) rfl), hts _ (gd_of (hok _ (by simp [kWs])) rfl), m2, fun sig hs => by have := m3 sig hs; simp at this; omega, (hKn.2.2.2.1 _ (hok _ List.mem_cons_self) rfl).use rfl⟩, hts _ (gd_of (hok _ (by simp [kWs])) rfl), hts _ (gd_of (hok _ (by simp [kWs])) rfl)⟩ ⟨gPc_blind, hrv, fun U hU hW => ⟨rfl, by rw [hU]; exact hC, Kn_warm hU hW hS hgl hKn, by rw [hU]; exact hHs⟩⟩ rfl (by simp; omega) hsz (st_split2 G e0) (lv_room (Nat.le_trans (cat_le G _) (by omega))) hdg ⟨by omega, by omega⟩)
set_option maxHeartbeats 4000000 in
theorem snd (C : Cx G p R s m args meth c cc o mL d n0 nm ini) (hRt : Rok G p e R s m args below meth c Z cc n0 rt Rt) {K : Kt} (hK : ∀ pc L st n w, K pc L st n w → Jm G p e R s m args below meth c Z mL n0 nm pc L st n w) {pc : Nat} {L st : List Value} {n : Nat} {w : Wd}
    (h : stp G o ini mL rt d nm (Jm G p e R s m args below meth c Z mL n0 nm) K Rt pc (dec cc pc) L st n w) : Jm G p e R s m args below meth c Z mL n0 nm pc L st n w := by
  cases hd : dec cc pc with
  | none => rw [hd] at h; exact False.elim h
  | some q =>
    obtain ⟨ins, nx, ax, v⟩ := q
    rw [hd] at h
    obtain ⟨len, hdg, hlen, hfw, rfl, rfl, rfl⟩ := dec_of hd
    have C' := C
    obtain ⟨hx, hb, hml, hown, hts, hKn, hgb, hRf, hRl, hRc, hRs, hnm, hin⟩ := C
    have hgl : gB G ≤ s.heap.size := by omega
    cases ins with
    | iconst k =>
      obtain rfl : len = 1 := hlen.resolve_left (by simp [isSw])
      intro hn hL H locs ls hC hS hl
      exact lv_iconst hx hb hdg rfl (hK _ _ _ _ _ h hn hL H locs ls hC hS hl)
    | bipush k =>
      obtain rfl : len = 2 := hlen.resolve_left (by simp [isSw])
      intro hn hL H locs ls hC hS hl
      exact lv_bipush hx hb hdg rfl (hK _ _ _ _ _ h hn hL H locs ls hC hS hl)
    | sipush k =>
      obtain rfl : len = 3 := hlen.resolve_left (by simp [isSw])
      intro hn hL H locs ls hC hS hl
      exact lv_sipush hx hb hdg rfl (hK _ _ _ _ _ h hn hL H locs ls hC hS hl)
    | lconst k =>
      obtain rfl : len = 1 := hlen.resolve_left (by simp [isSw])
      intro hn hL H locs ls hC hS hl
      exact lv_lconst hx hb hdg rfl (hK _ _ _ _ _ h hn hL H locs ls hC hS hl)
    | ldc_w idx =>
      obtain rfl : len = 3 := hlen.resolve_left (by simp [isSw])
      intro hn hL H locs ls hC hS hl
      cases hr : rI o idx with
      | none => simp only [stp, hr] at h
      | some z =>
        simp only [stp, hr] at h
        have hw := iTbl_ok _ (lk_mem hr)
        exact lv_ldcw hx hb hown (hts _ (gd_of hw rfl)) hdg (hK _ _ _ _ _ h hn hL H locs ls hC hS hl)
    | ldc2_w idx =>
      obtain rfl : len = 3 := hlen.resolve_left (by simp [isSw])
      intro hn hL H locs ls hC hS hl
      cases hr : rJ o idx with
      | none => simp only [stp, hr] at h
      | some z =>
        simp only [stp, hr] at h
        have hw := jTbl_ok _ (lk_mem hr)
        exact lv_ldc2 hx hb hown (hts _ (gd_of hw rfl)) hdg (hK _ _ _ _ _ h hn hL H locs ls hC hS hl)
    | iload k =>
      obtain rfl : len = 2 := hlen.resolve_left (by simp [isSw])
      intro hn hL H locs ls hC hS hl
      obtain ⟨h1, h⟩ := h
      obtain ⟨a, ha⟩ := isI_inv h1
      rw [ha] at h
      exact lv_iload hx hb hdg (lvL_at hl ha (by simp)) (hK _ _ _ _ _ h hn hL H locs ls hC hS hl)
    | iload_n k =>
      obtain rfl : len = 1 := hlen.resolve_left (by simp [isSw])
      intro hn hL H locs ls hC hS hl
      obtain ⟨h1, h⟩ := h
      obtain ⟨a, ha⟩ := isI_inv h1
      rw [ha] at h
      exact lv_iload_n hx hb hdg rfl (lvL_at hl ha (by simp)) (hK _ _ _ _ _ h hn hL H locs ls hC hS hl)
    | lload k =>
      obtain rfl : len = 2 := hlen.resolve_left (by simp [isSw])
      intro hn hL H locs ls hC hS hl
      obtain ⟨h1, h⟩ := h
      obtain ⟨a, ha⟩ := isJ_inv h1
      rw [ha] at h
      exact lv_lload hx hb hdg (lvL_at hl ha (by simp)) (hK _ _ _ _ _ h hn hL H locs ls hC hS hl)
    | lload_n k =>
      obtain rfl : len = 1 := hlen.resolve_left (by simp [isSw])
      intro hn hL H locs ls hC hS hl
      obtain ⟨h1, h⟩ := h
      obtain ⟨a, ha⟩ := isJ_inv h1
      rw [ha] at h
      exact lv_lload_n hx hb hdg rfl (lvL_at hl ha (by simp)) (hK _ _ _ _ _ h hn hL H locs ls hC hS hl)
    | aload_n k =>
      obtain rfl : len = 1 := hlen.resolve_left (by simp [isSw])
      intro hn hL H locs ls hC hS hl
      obtain ⟨h1, h⟩ := h
      obtain ⟨a, ha⟩ := isA_inv h1
      rw [ha] at h
      exact lv_aload_n hx hb hdg rfl (lvL_at hl ha (by simp)) (hK _ _ _ _ _ h hn hL H locs ls hC hS hl)
    | istore k =>
      obtain rfl : len = 2 := hlen.resolve_left (by simp [isSw])
      intro hn hL H locs ls hC hS hl
      obtain ⟨a, r, rfl, h1, h⟩ := s1I_inv h
      exact lv_istore hx hb hdg hl (by rw [hL]; exact h1) rfl (fun ls' hl2 => hK _ _ _ _ _ h hn ((sto_len _ _ _).trans hL) H locs ls' hC hS (lvL_sto (v := .int a) (by rw [hL]; exact h1) hl2))
    | istore_n k =>
      obtain rfl : len = 1 := hlen.resolve_left (by simp [isSw])
      intro hn hL H locs ls hC hS hl
      obtain ⟨a, r, rfl, h1, h⟩ := s1I_inv h
      exact lv_istore_n hx hb hdg rfl hl (by rw [hL]; exact h1) rfl (fun ls' hl2 => hK _ _ _ _ _ h hn ((sto_len _ _ _).trans hL) H locs ls' hC hS (lvL_sto (v := .int a) (by rw [hL]; exact h1) hl2))
    | lstore k =>
      obtain rfl : len = 2 := hlen.resolve_left (by simp [isSw])
      intro hn hL H locs ls hC hS hl
      obtain ⟨a, r, rfl, h1, h⟩ := s1J_inv h
      exact lv_lstore hx hb hdg hl (by rw [hL]; exact h1) rfl (fun ls' hl2 => hK _ _ _ _ _ h hn ((sto_len _ _ _).trans ((sto_len _ _ _).trans hL)) H locs ls' hC hS (lvL_sto2 (v := .long a) (by rw [hL]; exact h1) hl2))
    | lstore_n k =>
      obtain rfl : len = 1 := hlen.resolve_left (by simp [isSw])
      intro hn hL H locs ls hC hS hl
      obtain ⟨a, r, rfl, h1, h⟩ := s1J_inv h
      exact lv_lstore_n hx hb hdg rfl hl (by rw [hL]; exact h1) rfl (fun ls' hl2 => hK _ _ _ _ _ h hn ((sto_len _ _ _).trans ((sto_len _ _ _).trans hL)) H locs ls' hC hS (lvL_sto2 (v := .long a) (by rw [hL]; exact h1) hl2))
    | astore_n k =>
      obtain rfl : len = 1 := hlen.resolve_left (by simp [isSw])
      intro hn hL H locs ls hC hS hl
      obtain ⟨a, r, rfl, h1, h⟩ := s1A_inv h
      exact lv_astore_n hx hb hdg rfl hl (by rw [hL]; exact h1) rfl (fun ls' hl2 => hK _ _ _ _ _ h hn ((sto_len _ _ _).trans hL) H locs ls' hC hS (lvL_sto (v := .ref a) (by rw [hL]; exact h1) hl2))
    | iinc k q =>
      obtain rfl : len = 3 := hlen.resolve_left (by simp [isSw])
      intro hn hL H locs ls hC hS hl
      obtain ⟨h1, h2, h⟩ := h
      obtain ⟨a, ha⟩ := isI_inv h1
      rw [ha] at h
      obtain ⟨j, hj⟩ := List.getElem?_of_mem (lsO_mem (G := G) (L := L) (q := (k, .int a)).mpr ⟨.int a, ha, by simp, rfl⟩)
      exact lv_iinc (v := a + Int32.ofInt q) hx hb hdg hl hj rfl (by rw [hL]; exact h2) rfl (fun ls' hl2 => hK _ _ _ _ _ h hn ((sto_len _ _ _).trans hL) H locs ls' hC hS (lvL_sto (v := .int (a + Int32.ofInt q)) (by rw [hL]; exact h2) hl2))
    | iadd =>
      obtain rfl : len = 1 := hlen.resolve_left (by simp [isSw])
      intro hn hL H locs ls hC hS hl
      obtain ⟨a, b, r, rfl, h⟩ := s2I_inv h
      exact lv_iadd hx hb hdg (hK _ _ _ _ _ h hn hL H locs ls hC hS hl)
    | isub =>
      obtain rfl : len = 1 := hlen.resolve_left (by simp [isSw])
      intro hn hL H locs ls hC hS hl
      obtain ⟨a, b, r, rfl, h⟩ := s2I_inv h
      exact lv_isub hx hb hdg (hK _ _ _ _ _ h hn hL H locs ls hC hS hl)
    | imul =>
      obtain rfl : len = 1 := hlen.resolve_left (by simp [isSw])
      intro hn hL H locs ls hC hS hl
      obtain ⟨a, b, r, rfl, h⟩ := s2I_inv h
      exact lv_imul hx hb hdg (hK _ _ _ _ _ h hn hL H locs ls hC hS hl)
    | iand =>
      obtain rfl : len = 1 := hlen.resolve_left (by simp [isSw])
      intro hn hL H locs ls hC hS hl
      obtain ⟨a, b, r, rfl, h⟩ := s2I_inv h
      exact lv_iand hx hb hdg (hK _ _ _ _ _ h hn hL H locs ls hC hS hl)
    | ior =>
      obtain rfl : len = 1 := hlen.resolve_left (by simp [isSw])
      intro hn hL H locs ls hC hS hl
      obtain ⟨a, b, r, rfl, h⟩ := s2I_inv h
      exact lv_ior hx hb hdg (hK _ _ _ _ _ h hn hL H locs ls hC hS hl)
    | ishl =>
      obtain rfl : len = 1 := hlen.resolve_left (by simp [isSw])
      intro hn hL H locs ls hC hS hl
      obtain ⟨a, b, r, rfl, h⟩ := s2I_inv h
      exact lv_ishl hx hb hdg (hK _ _ _ _ _ h hn hL H locs ls hC hS hl)
    | iushr =>
      obtain rfl : len = 1 := hlen.resolve_left (by simp [isSw])
      intro hn hL H locs ls hC hS hl
      obtain ⟨a, b, r, rfl, h⟩ := s2I_inv h
      exact lv_iushr hx hb hdg rfl (hK _ _ _ _ _ h hn hL H locs ls hC hS hl)
    | land =>
      obtain rfl : len = 1 := hlen.resolve_left (by simp [isSw])
      intro hn hL H locs ls hC hS hl
      obtain ⟨a, b, r, rfl, h⟩ := s2J_inv h
      exact lv_land hx hb hdg (hK _ _ _ _ _ h hn hL H locs ls hC hS hl)
    | lor =>
      obtain rfl : len = 1 := hlen.resolve_left (by simp [isSw])
      intro hn hL H locs ls hC hS hl
      obtain ⟨a, b, r, rfl, h⟩ := s2J_inv h
      exact lv_lor hx hb hdg (hK _ _ _ _ _ h hn hL H locs ls hC hS hl)
    | lcmp =>
      obtain rfl : len = 1 := hlen.resolve_left (by simp [isSw])
      intro hn hL H locs ls hC hS hl
      obtain ⟨a, b, r, rfl, h⟩ := s2J_inv h
      exact W.lcmp hx hb hdg (hK _ _ _ _ _ h hn hL H locs ls hC hS hl)
    | lushr =>
      obtain rfl : len = 1 := hlen.resolve_left (by simp [isSw])
      intro hn hL H locs ls hC hS hl
      obtain ⟨a, b, r, rfl, h⟩ := sJI_inv h
      exact lv_lushr hx hb hdg rfl (hK _ _ _ _ _ h hn hL H locs ls hC hS hl)
    | lshl =>
      obtain rfl : len = 1 := hlen.resolve_left (by simp [isSw])
      intro hn hL H locs ls hC hS hl
      obtain ⟨a, b, r, rfl, h⟩ := sJI_inv h
      exact lv_lshl hx hb hdg rfl (hK _ _ _ _ _ h hn hL H locs ls hC hS hl)
    | i2l =>
      obtain rfl : len = 1 := hlen.resolve_left (by simp [isSw])
      intro hn hL H locs ls hC hS hl
      obtain ⟨a, r, rfl, h⟩ := s1I_inv h
      exact lv_i2l hx hb hdg rfl (hK _ _ _ _ _ h hn hL H locs ls hC hS hl)
    | l2i =>
      obtain rfl : len = 1 := hlen.resolve_left (by simp [isSw])
      intro hn hL H locs ls hC hS hl
      obtain ⟨a, r, rfl, h⟩ := s1J_inv h
      exact lv_l2i hx hb hdg rfl (hK _ _ _ _ _ h hn hL H locs ls hC hS hl)
    | i2c =>
      obtain rfl : len = 1 := hlen.resolve_left (by simp [isSw])
      intro hn hL H locs ls hC hS hl
      obtain ⟨a, r, rfl, h⟩ := s1I_inv h
      exact lv_i2c hx hb hdg rfl (hK _ _ _ _ _ h hn hL H locs ls hC hS hl)
    | idiv =>
      obtain rfl : len = 1 := hlen.resolve_left (by simp [isSw])
      intro hn hL H locs ls hC hS hl
      obtain ⟨a, b, r, rfl, h1, h⟩ := s2I_inv h
      exact lv_idiv hx hb hdg h1 (hK _ _ _ _ _ h hn hL H locs ls hC hS hl)
    | irem =>
      obtain rfl : len = 1 := hlen.resolve_left (by simp [isSw])
      intro hn hL H locs ls hC hS hl
      obtain ⟨a, b, r, rfl, h1, h⟩ := s2I_inv h
      exact lv_irem hx hb hdg h1 (hK _ _ _ _ _ h hn hL H locs ls hC hS hl)
    | if_icmp k off =>
      obtain rfl : len = 3 := hlen.resolve_left (by simp [isSw])
      intro hn hL H locs ls hC hS hl
      have ht : (pc : Int) + off = ((((pc : Int) + off).toNat : Nat) : Int) := (Int.toNat_of_nonneg (of_decide_eq_true hfw)).symm
      obtain ⟨a, b, r, rfl, h⟩ := s2I_inv h
      cases k with
      | eq => exact lv_icmp_eq hx hb hdg ht (fun z => hK _ _ _ _ _ (h.1 z) hn hL H locs ls hC hS hl) (fun z => hK _ _ _ _ _ (h.2 z) hn hL H locs ls hC hS hl)
      | ne => exact lv_icmp_ne hx hb hdg ht (fun z => hK _ _ _ _ _ (h.1 z) hn hL H locs ls hC hS hl) (fun z => hK _ _ _ _ _ (h.2 z) hn hL H locs ls hC hS hl)
      | lt => exact lv_icmp_lt hx hb hdg ht (fun z => hK _ _ _ _ _ (h.1 z) hn hL H locs ls hC hS hl) (fun z => hK _ _ _ _ _ (h.2 z) hn hL H locs ls hC hS hl)
      | ge => exact lv_icmp_ge hx hb hdg ht (fun z => hK _ _ _ _ _ (h.1 z) hn hL H locs ls hC hS hl) (fun z => hK _ _ _ _ _ (h.2 z) hn hL H locs ls hC hS hl)
      | gt => exact lv_icmp_gt hx hb hdg ht (fun z => hK _ _ _ _ _ (h.1 z) hn hL H locs ls hC hS hl) (fun z => hK _ _ _ _ _ (h.2 z) hn hL H locs ls hC hS hl)
      | le => exact lv_icmp_le hx hb hdg ht (fun z => hK _ _ _ _ _ (h.1 z) hn hL H locs ls hC hS hl) (fun z => hK _ _ _ _ _ (h.2 z) hn hL H locs ls hC hS hl)
    | ifCond k off =>
      obtain rfl : len = 3 := hlen.resolve_left (by simp [isSw])
      intro hn hL H locs ls hC hS hl
      have ht : (pc : Int) + off = ((((pc : Int) + off).toNat : Nat) : Int) := (Int.toNat_of_nonneg (of_decide_eq_true hfw)).symm
      obtain ⟨a, r, rfl, h⟩ := s1I_inv h
      cases k with
      | eq => exact lv_if_eq hx hb hdg ht (fun z => hK _ _ _ _ _ (h.1 z) hn hL H locs ls hC hS hl) (fun z => hK _ _ _ _ _ (h.2 z) hn hL H locs ls hC hS hl)
      | ne => exact lv_if_ne hx hb hdg ht (fun z => hK _ _ _ _ _ (h.1 z) hn hL H locs ls hC hS hl) (fun z => hK _ _ _ _ _ (h.2 z) hn hL H locs ls hC hS hl)
      | lt => exact lv_if_lt hx hb hdg ht (fun z => hK _ _ _ _ _ (h.1 z) hn hL H locs ls hC hS hl) (fun z => hK _ _ _ _ _ (h.2 z) hn hL H locs ls hC hS hl)
      | ge => exact lv_if_ge hx hb hdg ht (fun z => hK _ _ _ _ _ (h.1 z) hn hL H locs ls hC hS hl) (fun z => hK _ _ _ _ _ (h.2 z) hn hL H locs ls hC hS hl)
      | gt => exact lv_if_gt hx hb hdg ht (fun z => hK _ _ _ _ _ (h.1 z) hn hL H locs ls hC hS hl) (fun z => hK _ _ _ _ _ (h.2 z) hn hL H locs ls hC hS hl)
      | le => exact lv_if_le hx hb hdg ht (fun z => hK _ _ _ _ _ (h.1 z) hn hL H locs ls hC hS hl) (fun z => hK _ _ _ _ _ (h.2 z) hn hL H locs ls hC hS hl)
    | goto off =>
      obtain rfl : len = 3 := hlen.resolve_left (by simp [isSw])
      intro hn hL H locs ls hC hS hl
      have ht : (pc : Int) + off = ((((pc : Int) + off).toNat : Nat) : Int) := (Int.toNat_of_nonneg (of_decide_eq_true hfw)).symm
      exact lv_goto hx hb hdg ht (hK _ _ _ _ _ h hn hL H locs ls hC hS hl)
    | dup =>
      obtain rfl : len = 1 := hlen.resolve_left (by simp [isSw])
      intro hn hL H locs ls hC hS hl
      match st, h with
      | u :: r, h => exact lv_dup hx hb hdg ((gtv_cat G u).trans h.1) (hK _ _ _ _ _ h.2 hn hL H locs ls hC hS hl)
    | dup2 =>
      obtain rfl : len = 1 := hlen.resolve_left (by simp [isSw])
      intro hn hL H locs ls hC hS hl
      match st, h with
      | u :: z :: r, h => exact lv_dup2_11 hx hb hdg ((gtv_cat G u).trans h.1) ((gtv_cat G z).trans h.2.1) (hK _ _ _ _ _ h.2.2 hn hL H locs ls hC hS hl)
    | pop =>
      obtain rfl : len = 1 := hlen.resolve_left (by simp [isSw])
      intro hn hL H locs ls hC hS hl
      match st, h with
      | u :: r, h => exact lv_pop hx hb hdg ((gtv_cat G u).trans h.1) (hK _ _ _ _ _ h.2 hn hL H locs ls hC hS hl)
    | tableswitch df lo hi offs =>
      intro hn hL H locs ls hC hS hl
      obtain ⟨a, r, rfl, t, h1, h⟩ := s1I_inv h
      simp only [swT] at h1
      by_cases hr : a.toInt < lo ∨ hi < a.toInt
      · rw [if_pos hr, Option.bind_some] at h1
        by_cases hz : 0 ≤ (pc : Int) + df
        · rw [if_pos hz] at h1
          cases h1
          exact lv_tableOut hx hb hdg hr (Int.toNat_of_nonneg hz).symm (h hn hL H locs ls hC hS hl)
        · rw [if_neg hz] at h1
          cases h1
      · rw [if_neg hr] at h1
        cases ho : offs[(a.toInt - lo).toNat]? with
        | none => rw [ho] at h1; cases h1
        | some off =>
          rw [ho, Option.bind_some] at h1
          by_cases hz : 0 ≤ (pc : Int) + off
          · rw [if_pos hz] at h1
            cases h1
            exact lv_tableIn hx hb hdg (fun q => hr (Or.inl q)) (fun q => hr (Or.inr q)) ho (Int.toNat_of_nonneg hz).symm (h hn hL H locs ls hC hS hl)
          · rw [if_neg hz] at h1
            cases h1
    | lookupswitch df ps =>
      intro hn hL H locs ls hC hS hl
      obtain ⟨a, r, rfl, t, h1, h⟩ := s1I_inv h
      simp only [swT] at h1
      by_cases hr : (ps.toList.zip (ps.toList.drop 1)).all (fun (a, next) => a.1 < next.1) = true
      · rw [if_pos hr] at h1
        by_cases hz : 0 ≤ (pc : Int) + Op.lookupswitch.offset ps.toList df a.toInt
        · rw [if_pos hz] at h1
          cases h1
          exact lv_lookup hx hb hdg hr rfl (Int.toNat_of_nonneg hz).symm (h hn hL H locs ls hC hS hl)
        · rw [if_neg hz] at h1
          cases h1
      · rw [if_neg hr] at h1
        cases h1
    | getfield idx =>
      obtain rfl : len = 3 := hlen.resolve_left (by simp [isSw])
      intro hn hL H locs ls hC hS hl
      cases hr : rF o idx with
      | none => simp only [stp, hr] at h
      | some q =>
        obtain ⟨ci, k, b⟩ := q
        simp only [stp, hr] at h
        obtain ⟨a, r, rfl, h1, h⟩ := s1A_inv h
        obtain ⟨fs, ha, hk⟩ := isF_inv h1
        obtain ⟨q, hq, hkq, hwd⟩ := rF_ok hr
        have hcl := cl_ok hq
        rw [ha] at h
        have hat := gwl_at hC.2 ha rfl
        have hv : (fs.map (gtv G))[k]? = some (gtv G (vI fs[k]?)) := by
          rw [List.getElem?_map, List.getElem?_eq_getElem hk]; rfl
        cases b with
        | false => exact va_get hx hb hts hcl.1 hown hKn.1 hC.1 a hat hq k hkq (hts _ (gd_of hwd rfl)) (fun _ z => z) hv hdg (hK _ _ _ _ _ h hn hL H locs ls hC hS hl)
        | true => exact va_getN hx hb hts hcl.1 hown hKn.1 hC.1 a hat hq k hkq ((hKn.2.2.2.1 _ hwd rfl).use rfl) (fun _ z => z) hv hdg (hK _ _ _ _ _ h hn hL H locs ls hC hS hl)
    | putfield idx =>
      obtain rfl : len = 3 := hlen.resolve_left (by simp [isSw])
      intro hn hL H locs ls hC hS hl
      cases hr : rF o idx with
      | none => simp only [stp, hr] at h
      | some q =>
        obtain ⟨ci, k, b⟩ := q
        simp only [stp, hr] at h
        obtain ⟨a, u, r, rfl, h1, hpk, hfn, h⟩ := sVA_inv h
        obtain ⟨fs, ha, hk⟩ := isF_inv h1
        obtain ⟨q, hq, hkq, hwd⟩ := rF_ok hr
        have hcl := cl_ok hq
        rw [ha] at h
        have hat := gwl_at hC.2 ha rfl
        have hpk2 : narrow (ftC ci k) (gtv G u) = gtv G u ∧ fits (ftC ci k) (gtv G u) = true := by
          obtain ⟨p1, p2⟩ := hpk
          cases u <;> first | exact ⟨p1, p2⟩ | (constructor <;> (cases hft : ftC ci k <;> simp_all [narrow, fits, gtv]))
        have hfq : fnC ci k = (q.2.1 k).2.2.2 := by simp only [fnC, hq]
        have hset : (fs.map (gtv G)).set k (gtv G u) = (fs.set k u).map (gtv G) := (List.map_set).symm
        have fin : ∀ (H1 : Heap) (locs1 : List Loc), va_P (gD G) vwCl ((gwl G n w).set a (gal G a, .inr (ci, (fs.map (gtv G)).set k (gtv G u)))) H1 → va_D (gA G) ((gwl G n w).set a (gal G a, .inr (ci, (fs.map (gtv G)).set k (gtv G u)))) → va_S (gA G) s.heap H1 locs1 → W p (gL G) e R s m args below meth c H1 locs1 (n - n0) (2000 * (n - n0)) Z (F0 m (pc + 3) ls (r.map (gtv G))) := by
          intro H1 locs1 hP1 _ hS1
          rw [hset] at hP1
          exact hK _ _ _ _ _ h hn hL H1 locs1 ls (Cur_up (e1 := .inr (.inr (ci, fs.set k u))) hC ha rfl rfl hP1) hS1 hl
        cases hf : (q.2.1 k).2.2.2 with
        | false =>
          cases b with
          | false => exact va_put hx hb hts hcl.1 (ftC ci) hcl.2.2.1 hcl.2.1 hown hKn.1 hC.1 gwl_D hS a hat hq k hkq (hts _ (gd_of hwd rfl)) (fun _ z => z) hf (hcl.2.2.1 k hkq) hpk2.1 hpk2.2 (by rw [List.length_map]; exact hk) hdg fin
          | true => exact va_putN hx hb hts hcl.1 (ftC ci) hcl.2.2.1 hcl.2.1 hown hKn.1 hC.1 gwl_D hS a hat hq k hkq ((hKn.2.2.2.1 _ hwd rfl).use rfl) (fun _ z => z) hf (hcl.2.2.1 k hkq) hpk2.1 hpk2.2 (by rw [List.length_map]; exact hk) hdg fin
        | true =>
          obtain ⟨hi1, hi2⟩ := hfn (hfq.trans hf)
          have hdecl : (q.2.1 k).1 = nmO o := by
            have := fTbl_own _ (lk_mem hr)
            rw [hq] at this
            simp only [Option.all_some, decide_eq_true_eq] at this
            rw [this, hcl.2.2.2.2.2, hi2]
          cases b with
          | false => exact va_putF hx hb hts hcl.1 (ftC ci) hcl.2.2.1 hcl.2.1 hown hKn.1 hC.1 gwl_D hS a hat hq k hkq (hts _ (gd_of hwd rfl)) (fun _ z => z) hf (hin hi1) hdecl (hcl.2.2.1 k hkq) hpk2.1 hpk2.2 (by rw [List.length_map]; exact hk) hdg fin
          | true =>
            have := fTbl_nst _ (lk_mem hr)
            exact absurd hi2 (of_decide_eq_true this rfl)
    | getstatic idx =>
      obtain rfl : len = 3 := hlen.resolve_left (by simp [isSw])
      intro hn hL H locs ls hC hS hl
      cases hr : rS o idx with
      | none => simp only [stp, hr] at h
      | some q =>
        obtain ⟨j, b⟩ := q
        simp only [stp, hr] at h
        obtain ⟨hwd, hj1, hj2⟩ := sTbl_ok _ (lk_mem hr)
        have hnx := hK _ _ _ _ _ h hn hL H locs ls hC hS hl
        have hal : gtv G (.ref (1000 + j)) = .ref (gS G j) := by
          show Value.ref (gal G (1000 + j)) = _
          unfold gal
          rw [if_neg (by omega), Nat.add_sub_cancel_left]
        rw [List.map_cons, hal] at hnx
        cases b with
        | false => exact va_gets hx hb (hKn.2.2.1 j hj1 hj2) hS hown (hts _ (gd_of hwd rfl)) (fun _ z => z) hdg hnx
        | true => exact va_getsN hx hb (hKn.2.2.1 j hj1 hj2) hS hown ((hKn.2.2.2.1 _ hwd rfl).use rfl) (fun _ z => z) hdg hnx
    | iaload =>
      obtain rfl : len = 1 := hlen.resolve_left (by simp [isSw])
      intro hn hL H locs ls hC hS hl
      obtain ⟨a, i, r, rfl, h1, h⟩ := sAI_inv h
      obtain ⟨k, ln, f, ha, hvi, hk⟩ := isP0_inv h1
      rw [ha] at h
      rcases hk with rfl | rfl
      · exact va_iald hx hb hKn.1 hC.1 a 0 (gwl_at hC.2 ha rfl) rfl hvi hdg (hK _ _ _ _ _ h hn hL H locs ls hC hS hl)
      · obtain ⟨j, hj, e1, rfl, rfl⟩ := gdm_ro hC.2 ha
        have hnx := hK _ _ _ _ _ h hn hL H locs ls hC hS hl
        have hlt := (hKn.2.1 j hj).2
        show W p (gL G) e R s m args below meth c H locs (n - n0) (2000 * (n - n0)) Z (F0 m pc ls (.int i :: .ref (gal G a) :: r.map (gtv G)))
        rw [e1]
        exact va_sld hx hb (hKn.2.1 j hj).1 (Nat.lt_of_lt_of_le hlt hgl) (Nat.not_le.mpr hlt) hS hvi hdg hnx
    | baload =>
      obtain rfl : len = 1 := hlen.resolve_left (by simp [isSw])
      intro hn hL H locs ls hC hS hl
      obtain ⟨a, i, r, rfl, h1, h⟩ := sAI_inv h
      obtain ⟨ln, f, ha, hvi⟩ := isP_inv h1
      rw [ha] at h
      exact va_zald hx hb hKn.1 hC.1 a 1 (gwl_at hC.2 ha rfl) rfl hvi hdg (hK _ _ _ _ _ h hn hL H locs ls hC hS hl)
    | caload =>
      obtain rfl : len = 1 := hlen.resolve_left (by simp [isSw])
      intro hn hL H locs ls hC hS hl
      obtain ⟨a, i, r, rfl, h1, h⟩ := sAI_inv h
      obtain ⟨ln, f, ha, hvi⟩ := isP_inv h1
      rw [ha] at h
      exact va_cald hx hb hKn.1 hC.1 a 2 (gwl_at hC.2 ha rfl) rfl hvi hdg (hK _ _ _ _ _ h hn hL H locs ls hC hS hl)
    | iastore =>
      obtain rfl : len = 1 := hlen.resolve_left (by simp [isSw])
      intro hn hL H locs ls hC hS hl
      obtain ⟨a, i, x, r, rfl, h1, h⟩ := sAII_inv h
      obtain ⟨ln, f, ha, hvi⟩ := isP_inv h1
      rw [ha] at h
      exact va_iast hx hb hKn.1 hC.1 gwl_D hS a 0 (gwl_at hC.2 ha rfl) rfl hvi hdg (fun H1 locs1 hP1 _ hS1 => hK _ _ _ _ _ h hn hL H1 locs1 ls (Cur_up (e1 := .inl ((0, ln), upd f i.toNatClampNeg x)) hC ha rfl rfl hP1) hS1 hl)
    | bastore =>
      obtain rfl : len = 1 := hlen.resolve_left (by simp [isSw])
      intro hn hL H locs ls hC hS hl
      obtain ⟨a, i, x, r, rfl, h1, h⟩ := sAII_inv h
      obtain ⟨ln, f, ha, hvi⟩ := isP_inv h1
      rw [ha] at h
      exact va_zast hx hb hKn.1 hC.1 gwl_D hS a 1 (gwl_at hC.2 ha rfl) rfl hvi hdg (fun H1 locs1 hP1 _ hS1 => hK _ _ _ _ _ h hn hL H1 locs1 ls (Cur_up (e1 := .inl ((1, ln), upd f i.toNatClampNeg (vp_nar .boolean x))) hC ha rfl rfl hP1) hS1 hl)
    | castore =>
      obtain rfl : len = 1 := hlen.resolve_left (by simp [isSw])
      intro hn hL H locs ls hC hS hl
      obtain ⟨a, i, x, r, rfl, h1, h⟩ := sAII_inv h
      obtain ⟨ln, f, ha, hvi⟩ := isP_inv h1
      rw [ha] at h
      exact va_cast hx hb hKn.1 hC.1 gwl_D hS a 2 (gwl_at hC.2 ha rfl) rfl hvi hdg (fun H1 locs1 hP1 _ hS1 => hK _ _ _ _ _ h hn hL H1 locs1 ls (Cur_up (e1 := .inl ((2, ln), upd f i.toNatClampNeg (vp_nar .char x))) hC ha rfl rfl hP1) hS1 hl)
    | aaload =>
      obtain rfl : len = 1 := hlen.resolve_left (by simp [isSw])
      intro hn hL H locs ls hC hS hl
      obtain ⟨a, i, r, rfl, h1, h2, h⟩ := sAI_inv h
      obtain ⟨ln, g, ha, hvi⟩ := isR_inv h1
      rw [ha] at h h2
      obtain ⟨y, hy⟩ := isS_inv h2
      rw [hy] at h
      have hnx := hK _ _ _ _ _ h hn hL H locs ls hC hS hl
      have hy' : g i.toNatClampNeg = some y := hy
      refine va_aldq hx hb hKn.1 hC.1 a 3 (gwl_at hC.2 ha rfl) rfl hvi hdg ?_
      rw [hy']
      exact hnx
    | aastore =>
      obtain rfl : len = 1 := hlen.resolve_left (by simp [isSw])
      intro hn hL H locs ls hC hS hl
      obtain ⟨a, i, y, r, rfl, h1, h2, h⟩ := sAIA_inv h
      obtain ⟨ln, g, ha, hvi⟩ := isR_inv h1
      obtain ⟨fs, hy⟩ := isO_inv h2
      rw [ha] at h
      refine va_astq hx hb hKn.1 hC.1 gwl_D hS a 3 y 0 (r := (RX0, TX0, 11)) (gwl_at hC.2 ha rfl) rfl (gwl_at hC.2 hy rfl) rfl hvi hdg (fun H1 locs1 hP1 _ hS1 => hK _ _ _ _ _ h hn hL H1 locs1 ls (Cur_up (e1 := .inr (.inl (ln, va_up g i.toNatClampNeg (some y)))) hC ha rfl rfl ?_) hS1 hl)
      have e2 : (va_up (fun i => (g i).map (gal G)) i.toNatClampNeg (some (gal G y))) = fun j => (va_up g i.toNatClampNeg (some y) j).map (gal G) := by
        funext j
        by_cases hj : j = i.toNatClampNeg
        · simp [va_up, hj]
        · simp [va_up, hj]
      rw [e2] at hP1
      exact hP1
    | arraylength =>
      obtain rfl : len = 1 := hlen.resolve_left (by simp [isSw])
      intro hn hL H locs ls hC hS hl
      obtain ⟨a, r, rfl, h1, h⟩ := s1A_inv h
      obtain ⟨ln, f, ha⟩ := isSc_inv h1
      rw [ha] at h
      obtain ⟨j, hj, e1, rfl, rfl⟩ := gdm_ro hC.2 ha
      obtain ⟨⟨scr, x1, x2, x3, x4, x5⟩, hlt⟩ := hKn.2.1 j hj
      have hnx := hK _ _ _ _ _ h hn hL H locs ls hC hS hl
      show W p (gL G) e R s m args below meth c H locs (n - n0) (2000 * (n - n0)) Z (F0 m pc ls (.ref (gal G a) :: r.map (gtv G)))
      rw [e1]
      exact W.alen hx hb (by rw [hS.2.1 _ (Nat.lt_of_lt_of_le hlt hgl) (Nat.not_le.mpr hlt)]; exact x1) x2 (by rw [x4]; rfl) rfl rfl hdg hnx
    | new idx =>
      obtain rfl : len = 3 := hlen.resolve_left (by simp [isSw])
      intro hn hL H locs ls hC hS hl
      cases hr : rC o idx with
      | none => simp only [stp, hr] at h
      | some ci =>
        simp only [stp, hr] at h
        obtain ⟨h1, h⟩ := h
        have hws := cTbl_ok _ (lk_mem hr)
        cases hq : vwCl[ci]? with
        | none => simp only [cWs, hq] at hws; exact absurd (hws _ List.mem_cons_self) cNo
        | some q =>
          simp only [cWs, hq] at hws
          have hcl := cl_ok hq
          refine W_sz fun hz => ?_
          have hlo := Cur_lo hC (Nat.le_trans hgl hS.1)
          have hHs : H.size = gB G + n := by omega
          refine g_new (fs := dfl ci) hx hb hts hcl.1 (ftC ci) hcl.2.2.1 hown (hts _ (gd_of (hws _ (by simp)) rfl)) (hts _ (gd_of (hws _ (by simp)) rfl)) (hts _ (gd_of (hws _ (by simp)) rfl)) hKn.1 hC.1 hS hq hcl.2.2.2.1 (by omega) (Nat.le_trans (Nat.add_le_add_left hcl.2.2.2.2.1 _) (by omega)) hdg (fun H1 hP1 hS1 => ?_)
          have hmap : (dfl ci).map (gtv G) = dfl ci := by
            match ci, hq with
            | 0, _ => rfl
            | 1, _ => rfl
            | 2, _ => rfl
            | 3, _ => rfl
            | 4, _ => rfl
            | 5, _ => rfl
            | 6, _ => rfl
            | 7, _ => rfl
            | k + 8, hq => simp at hq
          rw [hHs] at hP1 ⊢
          have hP2 : va_P (gD G) vwCl (gwl G (n + 1) (va_up w n (some (.inr (.inr (ci, dfl ci)))))) H1 := by
            rw [← gwl_push]
            show va_P (gD G) vwCl (gwl G n w ++ [(gB G + n, .inr (ci, (dfl ci).map (gtv G)))]) H1
            rw [hmap]
            exact hP1
          have hnx := hK _ _ _ _ _ h (by omega) hL H1 locs ls ⟨hP2, gdm_push hC.2 (by omega) rfl⟩ hS1 hl
          have hal : gtv G (.ref n) = .ref (gB G + n) := by
            show Value.ref (gal G n) = _
            unfold gal
            rw [if_pos (by omega)]
          rw [List.map_cons, hal] at hnx
          exact W.widen (k := n + 1 - n0) (n := 2000 * (n + 1 - n0)) (by omega) (by have := hcl.2.2.2.2.1; omega) hnx
    | newarray ty =>
      obtain rfl : len = 2 := hlen.resolve_left (by simp [isSw])
      intro hn hL H locs ls hC hS hl
      obtain ⟨x, r, rfl, h1, h2, h3, h4, h⟩ := s1I_inv h
      refine W_sz fun hz => ?_
      have hlo := Cur_lo hC (Nat.le_trans hgl hS.1)
      have hHs : H.size = gB G + n := by omega
      have key : ∀ (kd : Nat), akd ty = kd → (Cond.arrayClass (newarray.typeOf ty)).before args s = true → s.vm.findClass ("[" ++ (newarray.typeOf ty).toString) = some (gC G kd) → defaultValue (newarray.typeOf ty) = .int 0 → componentBytes (newarray.typeOf ty) ≤ 4 → W p (gL G) e R s m args below meth c H locs (n - n0) (2000 * (n - n0)) Z (F0 m pc ls ((Value.int x :: r).map (gtv G))) := by
        intro kd hkd w1 w2 w3 w4
        rw [hkd] at h
        refine g_newa hx hb w1 w2 w3 hC.1 hS h2 rfl (Nat.le_trans (Nat.mul_le_mul h3 w4) (by decide)) (by omega) (by omega) hdg (fun H1 hP1 hS1 => ?_)
        rw [hHs] at hP1 ⊢
        have hP2 : va_P (gD G) vwCl (gwl G (n + 1) (va_up w n (some (.inl ((kd, x.toNatClampNeg), fun _ => 0))))) H1 := by
          rw [← gwl_push]
          exact hP1
        have hro : eRO (.inl ((kd, x.toNatClampNeg), fun _ => 0)) = false := by
          have : kd < 3 := by rw [← hkd]; exact h1
          match kd, this with
          | 0, _ => rfl
          | 1, _ => rfl
          | 2, _ => rfl
        have hnx := hK _ _ _ _ _ h (by omega) hL H1 locs ls ⟨hP2, gdm_push hC.2 (by omega) hro⟩ hS1 hl
        have hal : gtv G (.ref n) = .ref (gB G + n) := by
          show Value.ref (gal G n) = _
          unfold gal
          rw [if_pos (by omega)]
        rw [List.map_cons, hal] at hnx
        exact W.widen (k := n + 1 - n0) (n := 2000 * (n + 1 - n0)) (by omega) (by omega) hnx
      cases ty with
      | int => exact key 0 rfl (hts _ (gd_of acI rfl)) (hKn.1.2 0 _ rfl).2 rfl (by decide)
      | boolean => exact key 1 rfl (hts _ (gd_of acZ rfl)) (hKn.1.2 1 _ rfl).2 rfl (by decide)
      | char => exact key 2 rfl (hts _ (gd_of acC rfl)) (hKn.1.2 2 _ rfl).2 rfl (by decide)
      | _ => exact absurd h1 (by decide)
    | anewarray idx =>
      obtain rfl : len = 3 := hlen.resolve_left (by simp [isSw])
      intro hn hL H locs ls hC hS hl
      obtain ⟨x, r, rfl, h1, h2, h3, h4, h⟩ := s1I_inv h
      refine W_sz fun hz => ?_
      have hlo := Cur_lo hC (Nat.le_trans hgl hS.1)
      have hHs : H.size = gB G + n := by omega
      have hws := cTbl_ok _ (lk_mem h1)
      obtain ⟨kA, comp, -, -, -, hfc⟩ := (hKn.1.2 3 _ rfl).2
      refine g_newq (cA := gC G 3) hx hb hown (hts _ (gd_of (hws _ List.mem_cons_self) rfl)) hKn.2.2.2.2 hfc hC.1 hS h2 rfl (by omega) (by omega) (by omega) hdg (fun H1 hP1 hS1 => ?_)
      rw [hHs] at hP1 ⊢
      have hP2 : va_P (gD G) vwCl (gwl G (n + 1) (va_up w n (some (.inr (.inl (x.toNatClampNeg, fun _ => none)))))) H1 := by
        rw [← gwl_push]
        exact hP1
      have hnx := hK _ _ _ _ _ h (by omega) hL H1 locs ls ⟨hP2, gdm_push hC.2 (by omega) rfl⟩ hS1 hl
      have hal : gtv G (.ref n) = .ref (gB G + n) := by
        show Value.ref (gal G n) = _
        unfold gal
        rw [if_pos (by omega)]
      rw [List.map_cons, hal] at hnx
      exact W.widen (k := n + 1 - n0) (n := 2000 * (n + 1 - n0)) (by omega) (by omega) hnx
    | invokevirtual idx =>
      obtain rfl : len = 3 := hlen.resolve_left (by simp [isSw])
      exact snd_vi C' hK hdg h.1 h.2
    | invokespecial idx =>
      obtain rfl : len = 3 := hlen.resolve_left (by simp [isSw])
      exact snd_sp C' hK hdg h.1 h.2
    | invokestatic idx =>
      obtain rfl : len = 3 := hlen.resolve_left (by simp [isSw])
      exact snd_st C' hK hdg h.1 h.2
    | ireturn =>
      obtain rfl : len = 1 := hlen.resolve_left (by simp [isSw])
      intro hn hL H locs ls hC hS hl
      obtain ⟨x, r, rfl, rfl, ⟨ty, h1, h2⟩, h⟩ := s1I_inv h
      exact hRt.1 x ty n w pc H locs ls hdg h1 h2 h hn.1 hC hS
    | return_ =>
      obtain rfl : len = 1 := hlen.resolve_left (by simp [isSw])
      intro hn hL H locs ls hC hS hl
      obtain ⟨rfl, h1, h⟩ := h
      exact hRt.2.1 n w pc H locs ls hdg h1 h hn.1 hC hS
    | ishr =>
      obtain rfl : len = 1 := hlen.resolve_left (by simp [isSw])
      intro hn hL H locs ls hC hS hl
      obtain ⟨a, b, r, rfl, h⟩ := s2I_inv h
      exact lv_ishr hx hb hdg (hK _ _ _ _ _ h hn hL H locs ls hC hS hl)
    | ladd =>
      obtain rfl : len = 1 := hlen.resolve_left (by simp [isSw])
      intro hn hL H locs ls hC hS hl
      obtain ⟨a, b, r, rfl, h⟩ := s2J_inv h
      exact lv_ladd hx hb hdg (hK _ _ _ _ _ h hn hL H locs ls hC hS hl)
    | lmul =>
      obtain rfl : len = 1 := hlen.resolve_left (by simp [isSw])
      intro hn hL H locs ls hC hS hl
      obtain ⟨a, b, r, rfl, h⟩ := s2J_inv h
      exact lv_lmul hx hb hdg (hK _ _ _ _ _ h hn hL H locs ls hC hS hl)
    | ineg =>
      obtain rfl : len = 1 := hlen.resolve_left (by simp [isSw])
      intro hn hL H locs ls hC hS hl
      obtain ⟨a, r, rfl, h⟩ := s1I_inv h
      exact lv_ineg hx hb hdg (hK _ _ _ _ _ h hn hL H locs ls hC hS hl)
    | ldc idx =>
      obtain rfl : len = 2 := hlen.resolve_left (by simp [isSw])
      intro hn hL H locs ls hC hS hl
      cases hr : rI o idx with
      | none => simp only [stp, hr] at h
      | some z =>
        simp only [stp, hr] at h
        have hw := iTbl_ok _ (lk_mem hr)
        exact lv_ldc hx hb hown (hts _ (gd_of hw rfl)) hdg (hK _ _ _ _ _ h hn hL H locs ls hC hS hl)
    | lreturn =>
      obtain rfl : len = 1 := hlen.resolve_left (by simp [isSw])
      intro hn hL H locs ls hC hS hl
      obtain ⟨x, r, rfl, rfl, h1, h⟩ := s1J_inv h
      exact hRt.2.2 x n w pc H locs ls hdg h1 h hn.1 hC hS
    | _ => exact False.elim h
end SND3
