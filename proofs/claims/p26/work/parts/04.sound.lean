/-! SOUNDNESS of the step over the machine -/
theorem lk_mem {α β : Type} [BEq α] [LawfulBEq α] {a : α} {b : β} : ∀ {l : List (α × β)}, l.lookup a = some b → (a, b) ∈ l
  | [], h => by cases h
  | (x, y) :: l, h => by
    rw [List.lookup_cons] at h
    by_cases hx : (a == x) = true
    · rw [hx] at h
      cases h
      rw [eq_of_beq hx]
      exact List.mem_cons_self
    · rw [Bool.not_eq_true] at hx
      rw [hx] at h
      exact List.mem_cons_of_mem _ (lk_mem h)
theorem gd_of {w : Cond} (h : w ∈ lw_tbl) (hg : goodWord w = true) : w ∈ lw_gd := List.mem_filter.mpr ⟨h, hg⟩
theorem uws_good (C : String) (F : u_T) (N : Nat) : ∀ w ∈ u_ws C F N, goodWord w = true := by
  intro w hw
  obtain ⟨k, -, rfl⟩ := List.mem_map.mp hw
  unfold u_lay
  by_cases h : (F k).2.2.2 = true
  · rw [if_pos h]; rfl
  · rw [if_neg h]; rfl
def clOk (ci : Nat) (q : vw_C) : Prop := (∀ w ∈ u_ws q.1 q.2.1 q.2.2, w ∈ lw_gd) ∧ (∀ a, a < q.2.2 → ∀ b, b < q.2.2 → a ≠ b → (q.2.1 a).2.1 ≠ (q.2.1 b).2.1) ∧ (∀ k, k < q.2.2 → parseFieldDescriptor (q.2.1 k).2.2.1 = some (ftC ci k)) ∧ (∀ j, j < q.2.2 → defaultValue (ftC ci j) = vp_V (dfl ci) j) ∧ q.2.2 ≤ 2000 ∧ q.1 = nmO ci
theorem cl_ok {ci : Nat} {q : vw_C} (h : vwCl[ci]? = some q) : clOk ci q := by
  match ci, h with
  | 0, h => cases h; exact ⟨fun w hw => gd_of (inX0 w hw) (uws_good _ _ _ w hw), nmX0, tyX0_ok, (by decide +kernel), (by decide), rfl⟩
  | 1, h => cases h; exact ⟨fun w hw => gd_of (inX1 w hw) (uws_good _ _ _ w hw), nmX1, tyX1_ok, (by decide +kernel), (by decide), rfl⟩
  | 2, h => cases h; exact ⟨fun w hw => gd_of (inX2 w hw) (uws_good _ _ _ w hw), nmX2, tyX2_ok, (by decide +kernel), (by decide), rfl⟩
  | 3, h => cases h; exact ⟨fun w hw => gd_of (inX3 w hw) (uws_good _ _ _ w hw), nmX3, tyX3_ok, (by decide +kernel), (by decide), rfl⟩
  | 4, h => cases h; exact ⟨fun w hw => gd_of (inX4 w hw) (uws_good _ _ _ w hw), nmX4, tyX4_ok, (by decide +kernel), (by decide), rfl⟩
  | 5, h => cases h; exact ⟨fun w hw => gd_of (inX5 w hw) (uws_good _ _ _ w hw), nmX5, tyX5_ok, (by decide +kernel), (by decide), rfl⟩
  | 6, h => cases h; exact ⟨fun w hw => gd_of (inX6 w hw) (uws_good _ _ _ w hw), nmX6, tyX6_ok, (by decide +kernel), (by decide), rfl⟩
  | ci + 7, h => simp at h
theorem fTbl_k : ∀ e ∈ fTbl, (vwCl[e.2.1]?).any (fun q => decide (e.2.2.1 < q.2.2)) = true := by decide +kernel
theorem rF_ok {o i ci k : Nat} {b : Bool} (h : rF o i = some (ci, k, b)) : ∃ q, vwCl[ci]? = some q ∧ k < q.2.2 ∧ (if b then Cond.fieldLinkNest (nmO o) i (q.2.1 k).1 (q.2.1 k).2.1 (q.2.1 k).2.2.1 "ClawCranes" else Cond.fieldLink (nmO o) i (q.2.1 k).1 (q.2.1 k).2.1 (q.2.1 k).2.2.1) ∈ lw_tbl := by
  have h1 := lk_mem h
  have h2 := fTbl_k _ h1
  have h3 := fTbl_ok _ h1
  unfold fWd at h3
  cases hq : vwCl[ci]? with
  | none => rw [hq] at h2; cases h2
  | some q =>
    rw [hq] at h2 h3
    exact ⟨q, rfl, of_decide_eq_true h2, h3⟩
theorem mk_pos : mpL.map (fun i => lw_tbl[i]?) = mrL.map (fun M => some (Cond.code M.1 M.2.1 M.2.2.1 M.2.2.2.1)) := by
  simp only [mpL, mrL, List.map_append, mcL0, mcL1, mcL2, mcL3, mcL4, mcL5, mcL6, mcL7, mcL8, mcL9, mcL10, mcL11, mcL12]
theorem mr_code {mi : Nat} (h : mi < mrL.length) : Cond.code (mr mi).1 (mr mi).2.1 (mr mi).2.2.1 (mr mi).2.2.2.1 ∈ lw_tbl := by
  have h1 : (mrL.map (fun M => some (Cond.code M.1 M.2.1 M.2.2.1 M.2.2.2.1)))[mi]? = some (some (Cond.code (mr mi).1 (mr mi).2.1 (mr mi).2.2.1 (mr mi).2.2.2.1)) := by
    rw [List.getElem?_map, List.getElem?_eq_getElem h]
    simp only [mr, List.getElem?_eq_getElem h, Option.map_some, Option.getD_some]
  rw [← mk_pos, List.getElem?_map] at h1
  cases hi : mpL[mi]? with
  | none => rw [hi] at h1; cases h1
  | some i =>
    rw [hi] at h1
    exact List.mem_of_getElem? (Option.some.inj h1)
theorem wLs_good {mi : Nat} (h : mi < mrL.length) : GoodIn lw_gd (wLs mi) := by
  intro w hw
  rcases List.mem_cons.mp hw with rfl | hw
  · exact ⟨gd_of (mr_code h) rfl, good_of_word rfl⟩
  · exact ⟨hw, good_of_word (List.mem_filter.mp hw).2⟩
theorem Kn_same {G : Gx} {u U : State} (h1 : u.vm = U.vm) (h2 : u.heap = U.heap) (h : Kn G u) : Kn G U := by
  obtain ⟨hK, hX, hZ, hN, hO⟩ := h
  have ha : u.vm.Alike U.vm := by rw [h1]; exact Vm.Alike.refl _
  exact ⟨hK.moved ha, fun j hj => ⟨by rw [← h2]; exact (hX j hj).1.moved ha, (hX j hj).2⟩, fun j a b => by rw [← h2]; exact (hZ j a b).moved ha, fun w hw hn => (hN w hw hn).same (by cases w <;> first | rfl | cases hn) h1, hO.moved ha⟩
theorem Kn_warm {G : Gx} {s U : State} {H : Heap} {locs : List Loc} (hU : U.heap = H) (hW : s.WarmedH U.vm) (hS : va_S (gA G) s.heap H locs) (hg : gB G ≤ s.heap.size) (h : Kn G s) : Kn G U := by
  obtain ⟨hK, hX, hZ, hN, hO⟩ := h
  have ha := hW.alike
  refine ⟨hK.moved ha, fun j hj => ⟨?_, (hX j hj).2⟩, fun j a b => ?_, fun w hw hn => ?_, hO.moved ha⟩
  · rw [hU]
    exact ((hX j hj).1.kept (hS.2.1 _ (Nat.lt_of_lt_of_le (hX j hj).2 hg) (Nat.not_le.mpr (hX j hj).2))).moved ha
  · rw [hU]
    exact ((hZ j a b).kept (fun q h1 h2 => hS.2.1 q h1 h2)).moved ha
  · cases w <;> first | exact (hN _ hw hn).warmF hW | exact (hN _ hw hn).warmM hW | cases hn
theorem gPc_blind {G : Gx} {args : List Value} {n : Nat} {w : Wd} : FrameBlind (gPc G args n w) := fun a U g mk h => ⟨h.1, h.2.1, Kn_same (u := U) (U := U.calling g mk a) rfl rfl h.2.2.1, h.2.2.2⟩
theorem isI_inv {x : Option Value} (h : isI x) : ∃ a, x = some (.int a) := by
  unfold isI at h
  split at h
  · exact ⟨_, rfl⟩
  · exact h.elim
theorem isJ_inv {x : Option Value} (h : isJ x) : ∃ a, x = some (.long a) := by
  unfold isJ at h
  split at h
  · exact ⟨_, rfl⟩
  · exact h.elim
theorem isA_inv {x : Option Value} (h : isA x) : ∃ a, x = some (.ref a) := by
  unfold isA at h
  split at h
  · exact ⟨_, rfl⟩
  · exact h.elim
theorem isF_inv {x : Option En} {ci k : Nat} (h : isF x ci k) : ∃ fs, x = some (.inr (.inr (ci, fs))) ∧ k < fs.length := by
  unfold isF at h
  split at h
  · obtain ⟨rfl, h⟩ := h
    exact ⟨_, rfl, h⟩
  · exact h.elim
theorem isO_inv {x : Option En} {ci : Nat} (h : isO x ci) : ∃ fs, x = some (.inr (.inr (ci, fs))) := by
  unfold isO at h
  split at h
  · subst h
    exact ⟨_, rfl⟩
  · exact h.elim
theorem isP_inv {x : Option En} {k : Nat} {i : Int32} (h : isP x k i) : ∃ len f, x = some (.inl ((k, len), f)) ∧ vp_in i len := by
  unfold isP at h
  split at h
  · obtain ⟨rfl, h⟩ := h
    exact ⟨_, _, rfl, h⟩
  · exact h.elim
theorem isP0_inv {x : Option En} {i : Int32} (h : isP0 x i) : ∃ k len f, x = some (.inl ((k, len), f)) ∧ vp_in i len ∧ (k = 0 ∨ k = 4) := by
  unfold isP0 at h
  split at h
  · exact ⟨_, _, _, rfl, h.2, h.1⟩
  · exact h.elim
theorem isR_inv {x : Option En} {i : Int32} (h : isR x i) : ∃ len g, x = some (.inr (.inl (len, g))) ∧ vp_in i len := by
  unfold isR at h
  split at h
  · exact ⟨_, _, rfl, h⟩
  · exact h.elim
theorem isS_inv {x : Option Nat} (h : isS x) : ∃ v, x = some v := by
  cases x with
  | none => exact h.elim
  | some v => exact ⟨v, rfl⟩
theorem isSc_inv {x : Option En} (h : isSc x) : ∃ len f, x = some (.inl ((4, len), f)) := by
  unfold isSc at h
  split at h
  · exact ⟨_, _, rfl⟩
  · exact h.elim
theorem isCp_inv {x y : Option En} {sp dp n : Int32} (h : isCp x y sp dp n) : ∃ k0 n0 f n1 g, x = some (.inl ((k0, n0), f)) ∧ y = some (.inl ((0, n1), g)) ∧ (k0 = 0 ∨ k0 = 4) ∧ ¬ sp < 0 ∧ ¬ dp < 0 ∧ ¬ n < 0 ∧ sp.toNatClampNeg + n.toNatClampNeg ≤ n0 ∧ dp.toNatClampNeg + n.toNatClampNeg ≤ n1 := by
  unfold isCp at h
  split at h
  · obtain ⟨a, rfl, b⟩ := h
    exact ⟨_, _, _, _, _, rfl, rfl, a, b⟩
  · exact h.elim
theorem cat_le (G : Gx) : ∀ (r : List Value), ((r.map (gtv G)).map fun v => v.category).sum ≤ 2 * r.length
  | [] => Nat.le_refl _
  | v :: r => by
    have h := cat_le G r
    have h2 : v.category ≤ 2 := by cases v <;> simp [Value.category]
    simp only [List.map_cons, List.sum_cons, List.length_cons, gtv_cat]
    omega
