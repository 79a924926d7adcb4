/-! THE FRAME: worlds as functions, contracts of whole worlds, one step of a method as a Prop -/
abbrev En : Type := ((Nat × Nat) × (Nat → Int32)) ⊕ ((Nat × (Nat → Option Nat)) ⊕ (Nat × List Value))
abbrev Wd : Type := Nat → Option En
abbrev Gx : Type := Launch × va_G × (Nat → ClassId) × Nat × (Nat → Nat) × (Nat → Nat × (Nat → Int32))
def gL (G : Gx) : Launch := G.1
def gD (G : Gx) : va_G := G.2.1
def gC (G : Gx) : Nat → ClassId := G.2.2.1
def gB (G : Gx) : Nat := G.2.2.2.1
def gS (G : Gx) : Nat → Nat := G.2.2.2.2.1
def gR (G : Gx) : Nat → Nat × (Nat → Int32) := G.2.2.2.2.2
def gA (G : Gx) : Nat → Prop := fun q => gB G ≤ q
def gal (G : Gx) (i : Nat) : Nat := if i < 1000 then gB G + i else gS G (i - 1000)
def gtv (G : Gx) : Value → Value
  | .ref i => .ref (gal G i)
  | v => v
def gte (G : Gx) : Option En → va_E
  | some (.inl ((k, n), f)) => .inl (gC G k, n, .inl f)
  | some (.inr (.inl (n, g))) => .inl (gC G 3, n, .inr (.inr (.inr (.inr (fun i => (g i).map (gal G))))))
  | some (.inr (.inr (ci, fs))) => .inr (ci, fs.map (gtv G))
  | none => .inr (0, [])
def gwl (G : Gx) (n : Nat) (w : Wd) : va_W := (List.range n).map (fun i => (gB G + i, gte G (w i)))
def eRO : En → Bool
  | .inl ((4, _), _) => true
  | _ => false
def gdm (G : Gx) (n : Nat) (w : Wd) : Prop := n ≤ 1000 ∧ ∀ i e, w i = some e → (i < n ∧ eRO e = false) ∨ ∃ j, j < 4 ∧ i = 1000 + j ∧ e = .inl ((4, (gR G j).1), (gR G j).2)
abbrev gty (G : Gx) : List (ClassId × FieldType) := [(gC G 0, .int), (gC G 1, .boolean), (gC G 2, .char), (gC G 3, .object "ClawCranes$Crane")]
def Cur (G : Gx) (n : Nat) (w : Wd) (H : Heap) : Prop := va_P (gD G) vwCl (gwl G n w) H ∧ gdm G n w
def isNst : Cond → Bool
  | .methodLinkNest .. => true
  | .fieldLinkNest .. => true
  | _ => false
def Kn (G : Gx) (U : State) : Prop := va_K (gD G) vwCl (gty G) U ∧ (∀ j, j < 4 → va_X (gS G j) (gR G j).1 (gR G j).2 U U.heap ∧ gS G j < gB G) ∧ (∀ j, 1 ≤ j → j < 4 → va_Z "ClawCranes" (sNm j) "[I" (.ref (gS G j)) (gA G) U U.heap) ∧ (∀ w ∈ lw_tbl, isNst w = true → va_Nw w U) ∧ va_AO "ClawCranes$Crane" U
def lw_gd : List Cond := lw_tbl.filter goodWord
def wLs (mi : Nat) : List Cond := Cond.code (mr mi).1 (mr mi).2.1 (mr mi).2.2.1 (mr mi).2.2.2.1 :: lw_gd
def gPc (G : Gx) (args : List Value) (n : Nat) (w : Wd) : Array Value → State → Prop := va_Pc (args.map (gtv G)) (fun U => Cur G n w U.heap ∧ Kn G U ∧ U.heap.size = gB G + n)
def gQc (G : Gx) (n : Nat) (Q : Option Value → Wd → Prop) : Array Value → State → Outcome → State → Prop := fun _ st o t => (∃ (r : Option Value) (w' : Wd), o = .returned (r.map (gtv G)) ∧ Q r w' ∧ Cur G n w' t.heap) ∧ va_F (gA G) st t
/-- the contract: method mi at depth d, making k cells, from the world w with n cells: it answers r with the world w' so that Q r w' -/
def T (G : Gx) (d k mi : Nat) (args : List Value) (n : Nat) (w : Wd) (Q : Option Value → Wd → Prop) : Prop :=
  Met (gL G) (mr mi).1 (wLs mi) { frames := d, cells := k, slots := 2000 * k, locals := 37 * d } (gPc G args n w) (gQc G (n + k) Q) k (2000 * k) (gA G)
-- ===== worlds =====
theorem gwl_len (G : Gx) (n : Nat) (w : Wd) : (gwl G n w).length = n := by simp [gwl]
theorem gwl_get {G : Gx} {n : Nat} {w : Wd} {i : Nat} (h : i < n) : (gwl G n w)[i]? = some (gB G + i, gte G (w i)) := by
  simp [gwl, h]
theorem gwl_lt {G : Gx} {n : Nat} {w : Wd} {i : Nat} {q : Nat × va_E} (h : (gwl G n w)[i]? = some q) : i < n ∧ q = (gB G + i, gte G (w i)) := by
  have hl : i < n := by have := (List.getElem?_eq_some_iff.mp h).1; rwa [gwl_len] at this
  rw [gwl_get hl] at h
  exact ⟨hl, (Option.some.inj h).symm⟩
theorem gwl_set {G : Gx} {n : Nat} {w : Wd} {i : Nat} (h : i < n) (e : En) : (gwl G n w).set i (gB G + i, gte G (some e)) = gwl G n (va_up w i (some e)) := by
  apply List.ext_getElem?
  intro j
  rw [List.getElem?_set]
  by_cases hj : i = j
  · subst hj
    rw [if_pos rfl, gwl_len, if_pos h, gwl_get h]
    simp [va_up]
  · rw [if_neg hj]
    by_cases hn : j < n
    · rw [gwl_get hn, gwl_get hn]
      simp [va_up, Ne.symm hj]
    · rw [List.getElem?_eq_none (by rw [gwl_len]; omega), List.getElem?_eq_none (by rw [gwl_len]; omega)]
theorem gwl_push {G : Gx} {n : Nat} {w : Wd} (e : En) : gwl G n w ++ [(gB G + n, gte G (some e))] = gwl G (n + 1) (va_up w n (some e)) := by
  unfold gwl
  rw [List.range_succ, List.map_append]
  congr 1
  · apply List.map_congr_left
    intro j hj
    have : j ≠ n := by have := List.mem_range.mp hj; omega
    simp [va_up, this]
  · simp [va_up]
theorem gwl_D {G : Gx} {n : Nat} {w : Wd} : va_D (gA G) (gwl G n w) := by
  refine ⟨fun i j p q hp hq h => ?_, fun k q hq => ?_⟩
  · obtain ⟨-, rfl⟩ := gwl_lt hp
    obtain ⟨-, rfl⟩ := gwl_lt hq
    exact Nat.add_left_cancel h
  · obtain ⟨-, rfl⟩ := gwl_lt hq
    exact Nat.le_add_right _ _
theorem gdm_lt {G : Gx} {n : Nat} {w : Wd} (h : gdm G n w) {i : Nat} {e : En} (he : w i = some e) (hr : eRO e = false) : i < n := by
  rcases h.2 i e he with q | ⟨j, -, -, q⟩
  · exact q.1
  · subst q
    cases hr
theorem gdm_al {G : Gx} {n : Nat} {w : Wd} (h : gdm G n w) {i : Nat} {e : En} (he : w i = some e) (hr : eRO e = false) : gal G i = gB G + i := by
  have h1 := gdm_lt h he hr
  have h2 := h.1
  unfold gal
  rw [if_pos (by omega)]
theorem gdm_up {G : Gx} {n : Nat} {w : Wd} (h : gdm G n w) {i : Nat} {e e' : En} (he : w i = some e) (hr : eRO e = false) (hr' : eRO e' = false) : gdm G n (va_up w i (some e')) := by
  refine ⟨h.1, fun j x hx => ?_⟩
  by_cases hj : j = i
  · subst hj
    simp only [va_up, if_pos rfl] at hx
    cases hx
    exact Or.inl ⟨gdm_lt h he hr, hr'⟩
  · simp only [va_up, if_neg hj] at hx
    exact h.2 j x hx
theorem gdm_push {G : Gx} {n : Nat} {w : Wd} (h : gdm G n w) (hn : n + 1 ≤ 1000) {e' : En} (hr' : eRO e' = false) : gdm G (n + 1) (va_up w n (some e')) := by
  refine ⟨hn, fun j x hx => ?_⟩
  by_cases hj : j = n
  · subst hj
    simp only [va_up, if_pos rfl] at hx
    cases hx
    exact Or.inl ⟨Nat.lt_succ_self _, hr'⟩
  · simp only [va_up, if_neg hj] at hx
    rcases h.2 j x hx with q | q
    · exact Or.inl ⟨by omega, q.2⟩
    · exact Or.inr q
theorem gdm_ro {G : Gx} {n : Nat} {w : Wd} (h : gdm G n w) {i len : Nat} {f : Nat → Int32} (he : w i = some (.inl ((4, len), f))) : ∃ j, j < 4 ∧ gal G i = gS G j ∧ len = (gR G j).1 ∧ f = (gR G j).2 := by
  rcases h.2 i _ he with q | ⟨j, h1, h2, h3⟩
  · exact absurd q.2 (by simp [eRO])
  · injection h3 with h3
    injection h3 with h3 h4
    injection h3 with h3 h5
    refine ⟨j, h1, ?_, h5, h4⟩
    unfold gal
    rw [if_neg (by omega), h2, Nat.add_sub_cancel_left]
-- ===== locals =====
def lsE (G : Gx) (k : Nat) : Value → Option (Nat × Value)
  | .null => none
  | .int x => some (k, .int x)
  | .long x => some (k, .long x)
  | .float x => some (k, .float x)
  | .double x => some (k, .double x)
  | .ref x => some (k, gtv G (.ref x))
  | .retAddr x => some (k, .retAddr x)
theorem lsE_ne {G : Gx} {k : Nat} {v : Value} (h : v ≠ .null) : lsE G k v = some (k, gtv G v) := by
  cases v <;> first | rfl | exact (h rfl).elim
def lsO (G : Gx) (L : List Value) : List (Nat × Value) := (List.range L.length).filterMap fun k => (L[k]?).bind (lsE G k)
theorem lsO_mem {G : Gx} {L : List Value} {q : Nat × Value} : q ∈ lsO G L ↔ ∃ v, L[q.1]? = some v ∧ v ≠ .null ∧ q.2 = gtv G v := by
  unfold lsO
  rw [List.mem_filterMap]
  constructor
  · rintro ⟨k, -, hk⟩
    cases hv : L[k]? with
    | none => rw [hv] at hk; cases hk
    | some v =>
      rw [hv] at hk
      have h2 : v ≠ .null := by rintro rfl; cases hk
      have h3 : some (k, gtv G v) = some q := by
        rw [← hk, Option.bind_some, lsE_ne h2]
      cases h3
      exact ⟨v, hv, h2, rfl⟩
  · rintro ⟨v, h1, h2, h3⟩
    refine ⟨q.1, List.mem_range.mpr (List.getElem?_eq_some_iff.mp h1).1, ?_⟩
    rw [h1, Option.bind_some, lsE_ne h2, ← h3]
def lvL (G : Gx) (ls : Array Slot) (L : List Value) : Prop := lv_has ls L.length (lsO G L)
theorem lvL_at {G : Gx} {ls : Array Slot} {L : List Value} (h : lvL G ls L) {k : Nat} {v : Value} (hk : L[k]? = some v) (hv : v ≠ .null) : ls[k]? = some (.val (gtv G v)) := h.2.2 (k, gtv G v) (lsO_mem.mpr ⟨v, hk, hv, rfl⟩)
def clr : Value → Value
  | .long _ => .null
  | .double _ => .null
  | v => v
def sto : Nat → Value → List Value → List Value
  | 0, v, _ :: l => v :: l
  | 1, v, a :: _ :: l => clr a :: v :: l
  | k + 2, v, a :: l => a :: sto (k + 1) v l
  | _, _, l => l
theorem sto_len : ∀ (k : Nat) (v : Value) (l : List Value), (sto k v l).length = l.length
  | 0, v, [] => rfl
  | 0, v, _ :: l => rfl
  | 1, v, [] => rfl
  | 1, v, [_] => rfl
  | 1, v, _ :: _ :: l => rfl
  | k + 2, v, [] => rfl
  | k + 2, v, a :: l => by simp [sto, sto_len (k + 1) v l]
theorem sto_get : ∀ (k : Nat) (v : Value) (l : List Value) (j : Nat) (x : Value), (sto k v l)[j]? = some x → x ≠ .null → k < l.length → (j = k ∧ x = v) ∨ (j ≠ k ∧ l[j]? = some x ∧ ¬ (j + 1 = k ∧ x.category = 2))
  | 0, v, [], j, x, h, hx, hk => by simp at hk
  | 0, v, a :: l, 0, x, h, hx, hk => by simp [sto] at h; exact Or.inl ⟨rfl, h.symm⟩
  | 0, v, a :: l, j + 1, x, h, hx, hk => by
    simp [sto] at h
    exact Or.inr ⟨by omega, by simpa using h, by omega⟩
  | 1, v, [], j, x, h, hx, hk => by simp at hk
  | 1, v, [_], j, x, h, hx, hk => by simp at hk
  | 1, v, a :: b :: l, 0, x, h, hx, hk => by
    simp [sto] at h
    refine Or.inr ⟨by omega, ?_, ?_⟩
    · cases a <;> first | (simp [clr] at h; simp [h]; done) | (simp [clr] at h; exact absurd h.symm hx)
    · intro h2
      cases a <;> simp [clr] at h <;> subst h <;> simp [Value.category] at h2
  | 1, v, a :: b :: l, 1, x, h, hx, hk => by simp [sto] at h; exact Or.inl ⟨rfl, h.symm⟩
  | 1, v, a :: b :: l, j + 2, x, h, hx, hk => by
    simp [sto] at h
    exact Or.inr ⟨by omega, by simpa using h, by omega⟩
  | k + 2, v, [], j, x, h, hx, hk => by simp at hk
  | k + 2, v, a :: l, 0, x, h, hx, hk => by
    simp [sto] at h
    exact Or.inr ⟨by omega, by simp [h], by omega⟩
  | k + 2, v, a :: l, j + 1, x, h, hx, hk => by
    simp [sto] at h
    rcases sto_get (k + 1) v l j x h hx (by simp only [List.length_cons] at hk; omega) with ⟨h1, h2⟩ | ⟨h1, h2, h3⟩
    · exact Or.inl ⟨by omega, h2⟩
    · exact Or.inr ⟨by omega, by simpa using h2, fun q => h3 ⟨by omega, q.2⟩⟩
theorem gtv_cat (G : Gx) (v : Value) : (gtv G v).category = v.category := by cases v <;> rfl
theorem lvL_sto {G : Gx} {ls' : Array Slot} {L : List Value} {k : Nat} {v : Value} (hk : k < L.length) (h : lv_has ls' L.length ((k, gtv G v) :: (lsO G L).filter (fun q => !(q.1 == k) && !(q.1 + 1 == k && q.2.category == 2)))) : lvL G ls' (sto k v L) := by
  refine ⟨h.1.trans (sto_len k v L).symm, h.2.1, fun q hq => ?_⟩
  obtain ⟨x, h1, h2, h3⟩ := lsO_mem.mp hq
  rcases sto_get k v L q.1 x h1 h2 hk with ⟨e1, e2⟩ | ⟨e1, e2, e3⟩
  · have : q = (k, gtv G v) := by
      obtain ⟨a, b⟩ := q
      dsimp only at e1 h3
      rw [e1, h3, e2]
    rw [this]
    exact h.2.2 _ List.mem_cons_self
  · refine h.2.2 q (List.mem_cons_of_mem _ (List.mem_filter.mpr ⟨lsO_mem.mpr ⟨x, e2, h2, h3⟩, ?_⟩))
    rw [h3, gtv_cat]
    simp only [Bool.and_eq_true, Bool.not_eq_true', beq_eq_false_iff_ne, Bool.and_eq_false_iff, ne_eq]
    exact ⟨e1, Decidable.not_and_iff_or_not.mp e3⟩
theorem lvL_sto2 {G : Gx} {ls' : Array Slot} {L : List Value} {k : Nat} {v : Value} (hk : k + 1 < L.length) (h : lv_has ls' L.length ((k, gtv G v) :: (lsO G L).filter (fun q => !(q.1 == k) && (!(q.1 == k + 1) && !(q.1 + 1 == k && q.2.category == 2))))) : lvL G ls' (sto k v (sto (k + 1) .null L)) := by
  have hl : (sto (k + 1) .null L).length = L.length := sto_len _ _ _
  refine ⟨h.1.trans ((sto_len k v _).trans hl).symm, h.2.1, fun q hq => ?_⟩
  obtain ⟨x, h1, h2, h3⟩ := lsO_mem.mp hq
  rcases sto_get k v _ q.1 x h1 h2 (by omega) with ⟨e1, e2⟩ | ⟨e1, e2, e3⟩
  · have : q = (k, gtv G v) := by
      obtain ⟨a, b⟩ := q
      dsimp only at e1 h3
      rw [e1, h3, e2]
    rw [this]
    exact h.2.2 _ List.mem_cons_self
  · rcases sto_get (k + 1) .null L q.1 x e2 h2 hk with ⟨f1, f2⟩ | ⟨f1, f2, f3⟩
    · exact absurd f2 h2
    · refine h.2.2 q (List.mem_cons_of_mem _ (List.mem_filter.mpr ⟨lsO_mem.mpr ⟨x, f2, h2, h3⟩, ?_⟩))
      rw [h3, gtv_cat]
      simp only [Bool.and_eq_true, Bool.not_eq_true', beq_eq_false_iff_ne, Bool.and_eq_false_iff, ne_eq]
      exact ⟨e1, f1, Decidable.not_and_iff_or_not.mp e3⟩
def entL (mL : Nat) (args : List Value) : List Value := (args.flatMap fun v => if v.category = 2 then [v, .null] else [v]) ++ List.replicate (mL - (args.flatMap fun v => if v.category = 2 then [v, .null] else [v]).length) .null
theorem entL_at : ∀ (args : List Value) (r : Nat) (i j : Nat) (x : Value), ((args.flatMap fun v => if v.category = 2 then [v, .null] else [v]) ++ List.replicate r Value.null)[j]? = some x → x ≠ .null → (i + j, x) ∈ lv_args i args
  | [], r, i, j, x, h, hx => by
    simp only [List.flatMap_nil, List.nil_append] at h
    have := List.eq_of_mem_replicate (List.mem_of_getElem? h)
    exact absurd this hx
  | v :: args, r, i, j, x, h, hx => by
    rw [List.flatMap_cons, List.append_assoc] at h
    unfold lv_args
    by_cases hc : v.category = 2
    · rw [if_pos hc] at h
      rw [if_pos hc]
      match j, h with
      | 0, h => simp at h; subst h; exact List.mem_cons_self
      | 1, h => simp at h; exact absurd h.symm hx
      | j + 2, h =>
        have h' : ((args.flatMap fun v => if v.category = 2 then [v, .null] else [v]) ++ List.replicate r Value.null)[j]? = some x := by simpa using h
        have := entL_at args r (i + 2) j x h' hx
        exact List.mem_cons_of_mem _ (by rw [show i + (j + 2) = i + 2 + j by omega]; exact this)
    · rw [if_neg hc] at h
      rw [if_neg hc]
      match j, h with
      | 0, h => simp at h; subst h; exact List.mem_cons_self
      | j + 1, h =>
        have h' : ((args.flatMap fun v => if v.category = 2 then [v, .null] else [v]) ++ List.replicate r Value.null)[j]? = some x := by simpa using h
        have := entL_at args r (i + 1) j x h' hx
        exact List.mem_cons_of_mem _ (by rw [show i + (j + 1) = i + 1 + j by omega]; exact this)
theorem lv_args_map (G : Gx) : ∀ (args : List Value) (i : Nat) (q : Nat × Value), q ∈ lv_args i args → (q.1, gtv G q.2) ∈ lv_args i (args.map (gtv G))
  | [], i, q, h => by cases h
  | v :: args, i, q, h => by
    unfold lv_args at h ⊢
    simp only [List.map_cons]
    rcases List.mem_cons.mp h with rfl | h
    · exact List.mem_cons_self
    · rw [gtv_cat]
      exact List.mem_cons_of_mem _ (lv_args_map G args _ q h)
theorem lg_sl_len (G : Gx) (args : List Value) : (lg_sl (args.map (gtv G))).length = (args.flatMap fun v => if v.category = 2 then [v, .null] else [v]).length := by
  unfold lg_sl
  induction args with
  | nil => rfl
  | cons v l ih =>
    rw [List.map_cons, List.flatMap_cons, List.flatMap_cons, List.length_append, List.length_append, ih, gtv_cat]
    congr 1
    by_cases h : v.category = 2
    · rw [if_pos h, if_pos h]; rfl
    · rw [if_neg h, if_neg h]; rfl
theorem lvL_entry {G : Gx} {args : List Value} {mL : Nat} (h : (args.flatMap fun v => if v.category = 2 then [v, .null] else [v]).length ≤ mL) :
    lvL G ((lg_sl (args.map (gtv G)) ++ List.replicate (mL - (lg_sl (args.map (gtv G))).length) Slot.unset).toArray) (entL mL args) := by
  have h0 := lv_entry (args.map (gtv G)) (n := mL) (by rw [lg_sl_len]; exact h)
  have hl : (entL mL args).length = mL := by
    unfold entL
    rw [List.length_append, List.length_replicate]
    omega
  refine ⟨by rw [hl]; exact h0.1, h0.2.1, fun q hq => ?_⟩
  obtain ⟨v, h1, h2, h3⟩ := lsO_mem.mp hq
  have h4 := entL_at args _ 0 q.1 v h1 h2
  rw [Nat.zero_add] at h4
  have h5 := lv_args_map G args 0 _ h4
  refine h0.2.2 q ?_
  obtain ⟨a, b⟩ := q
  dsimp only at h3 h5 ⊢
  rw [h3]
  exact h5
