/-! the switches -/
theorem sw_14_35 {x : Int32} {P : Nat → Prop} (h0 : x = 1 → P 60) (h1 : x = 2 → P 75) (hd : ¬ x = 1 → ¬ x = 2 → P 92) : ∃ t, swT (.lookupswitch 57 #[(1, 25), (2, 40)]) 35 x = some t ∧ P t := by
  by_cases q0 : x = 1
  · subst q0; exact ⟨60, by decide +kernel, h0 rfl⟩
  by_cases q1 : x = 2
  · subst q1; exact ⟨75, by decide +kernel, h1 rfl⟩
  have r0 : ¬ (1 : Int) = x.toInt := fun z => q0 (Int32.toInt_inj.mp z.symm)
  have t0 : ¬ x.toInt = (1 : Int) := fun z => q0 (Int32.toInt_inj.mp z)
  have r1 : ¬ (2 : Int) = x.toInt := fun z => q1 (Int32.toInt_inj.mp z.symm)
  have t1 : ¬ x.toInt = (2 : Int) := fun z => q1 (Int32.toInt_inj.mp z)
  refine ⟨92, ?_, hd q0 q1⟩
  simp [swT, Op.lookupswitch.offset, r0, t0, r1, t1]
theorem sw_28_25 {x : Int32} {P : Nat → Prop} (h0 : x = 97 → P 89) (h1 : x = 99 → P 68) (h2 : x = 110 → P 82) (h3 : x = 112 → P 75) (hd : ¬ x = 97 → ¬ x = 99 → ¬ x = 110 → ¬ x = 112 → P 96) : ∃ t, swT (.lookupswitch 71 #[(97, 64), (99, 43), (110, 57), (112, 50)]) 25 x = some t ∧ P t := by
  by_cases q0 : x = 97
  · subst q0; exact ⟨89, by decide +kernel, h0 rfl⟩
  by_cases q1 : x = 99
  · subst q1; exact ⟨68, by decide +kernel, h1 rfl⟩
  by_cases q2 : x = 110
  · subst q2; exact ⟨82, by decide +kernel, h2 rfl⟩
  by_cases q3 : x = 112
  · subst q3; exact ⟨75, by decide +kernel, h3 rfl⟩
  have r0 : ¬ (97 : Int) = x.toInt := fun z => q0 (Int32.toInt_inj.mp z.symm)
  have t0 : ¬ x.toInt = (97 : Int) := fun z => q0 (Int32.toInt_inj.mp z)
  have r1 : ¬ (99 : Int) = x.toInt := fun z => q1 (Int32.toInt_inj.mp z.symm)
  have t1 : ¬ x.toInt = (99 : Int) := fun z => q1 (Int32.toInt_inj.mp z)
  have r2 : ¬ (110 : Int) = x.toInt := fun z => q2 (Int32.toInt_inj.mp z.symm)
  have t2 : ¬ x.toInt = (110 : Int) := fun z => q2 (Int32.toInt_inj.mp z)
  have r3 : ¬ (112 : Int) = x.toInt := fun z => q3 (Int32.toInt_inj.mp z.symm)
  have t3 : ¬ x.toInt = (112 : Int) := fun z => q3 (Int32.toInt_inj.mp z)
  refine ⟨96, ?_, hd q0 q1 q2 q3⟩
  simp [swT, Op.lookupswitch.offset, r0, t0, r1, t1, r2, t2, r3, t3]
theorem sw_33_4 {x : Int32} {P : Nat → Prop} (h0 : x = 98 → P 48) (h1 : x = 112 → P 40) (h2 : x = 120 → P 56) (hd : ¬ x = 98 → ¬ x = 112 → ¬ x = 120 → P 64) : ∃ t, swT (.lookupswitch 60 #[(98, 44), (112, 36), (120, 52)]) 4 x = some t ∧ P t := by
  by_cases q0 : x = 98
  · subst q0; exact ⟨48, by decide +kernel, h0 rfl⟩
  by_cases q1 : x = 112
  · subst q1; exact ⟨40, by decide +kernel, h1 rfl⟩
  by_cases q2 : x = 120
  · subst q2; exact ⟨56, by decide +kernel, h2 rfl⟩
  have r0 : ¬ (98 : Int) = x.toInt := fun z => q0 (Int32.toInt_inj.mp z.symm)
  have t0 : ¬ x.toInt = (98 : Int) := fun z => q0 (Int32.toInt_inj.mp z)
  have r1 : ¬ (112 : Int) = x.toInt := fun z => q1 (Int32.toInt_inj.mp z.symm)
  have t1 : ¬ x.toInt = (112 : Int) := fun z => q1 (Int32.toInt_inj.mp z)
  have r2 : ¬ (120 : Int) = x.toInt := fun z => q2 (Int32.toInt_inj.mp z.symm)
  have t2 : ¬ x.toInt = (120 : Int) := fun z => q2 (Int32.toInt_inj.mp z)
  refine ⟨64, ?_, hd q0 q1 q2⟩
  simp [swT, Op.lookupswitch.offset, r0, t0, r1, t1, r2, t2]
theorem sw_69_21 {x : Int32} {P : Nat → Prop} (h0 : x = 0 → P 60) (h1 : x = 1 → P 73) (h2 : x = 2 → P 86) (h3 : x = 3 → P 99) (h4 : x = 4 → P 112) (h5 : x = 5 → P 124) (hd : (x.toInt < 0 ∨ 5 < x.toInt) → P 137) : ∃ t, swT (.tableswitch 116 0 5 #[39, 52, 65, 78, 91, 103]) 21 x = some t ∧ P t := by
  by_cases q0 : x = 0
  · subst q0; exact ⟨60, by decide +kernel, h0 rfl⟩
  by_cases q1 : x = 1
  · subst q1; exact ⟨73, by decide +kernel, h1 rfl⟩
  by_cases q2 : x = 2
  · subst q2; exact ⟨86, by decide +kernel, h2 rfl⟩
  by_cases q3 : x = 3
  · subst q3; exact ⟨99, by decide +kernel, h3 rfl⟩
  by_cases q4 : x = 4
  · subst q4; exact ⟨112, by decide +kernel, h4 rfl⟩
  by_cases q5 : x = 5
  · subst q5; exact ⟨124, by decide +kernel, h5 rfl⟩
  have hx : x.toInt < 0 ∨ 5 < x.toInt := by
    have r0 : x.toInt ≠ 0 := fun z => q0 (Int32.toInt_inj.mp z)
    have r1 : x.toInt ≠ 1 := fun z => q1 (Int32.toInt_inj.mp z)
    have r2 : x.toInt ≠ 2 := fun z => q2 (Int32.toInt_inj.mp z)
    have r3 : x.toInt ≠ 3 := fun z => q3 (Int32.toInt_inj.mp z)
    have r4 : x.toInt ≠ 4 := fun z => q4 (Int32.toInt_inj.mp z)
    have r5 : x.toInt ≠ 5 := fun z => q5 (Int32.toInt_inj.mp z)
    omega
  exact ⟨137, by simp only [swT, if_pos hx]; rfl, hd hx⟩
theorem sw_74_26 {x : Int32} {P : Nat → Prop} (h0 : x = 0 → P 120) (h1 : x = 1 → P 128) (h2 : x = 2 → P 136) (h3 : x = 3 → P 144) (h4 : x = 4 → P 152) (h5 : x = 5 → P 160) (h6 : x = 6 → P 175) (h7 : x = 7 → P 183) (h8 : x = 8 → P 194) (h9 : x = 9 → P 206) (h10 : x = 10 → P 218) (h11 : x = 11 → P 229) (h12 : x = 12 → P 253) (h13 : x = 13 → P 253) (h14 : x = 14 → P 253) (h15 : x = 15 → P 253) (h16 : x = 16 → P 253) (h17 : x = 17 → P 253) (h18 : x = 18 → P 237) (h19 : x = 19 → P 245) (hd : (x.toInt < 0 ∨ 19 < x.toInt) → P 253) : ∃ t, swT (.tableswitch 227 0 19 #[94, 102, 110, 118, 126, 134, 149, 157, 168, 180, 192, 203, 227, 227, 227, 227, 227, 227, 211, 219]) 26 x = some t ∧ P t := by
  by_cases q0 : x = 0
  · subst q0; exact ⟨120, by decide +kernel, h0 rfl⟩
  by_cases q1 : x = 1
  · subst q1; exact ⟨128, by decide +kernel, h1 rfl⟩
  by_cases q2 : x = 2
  · subst q2; exact ⟨136, by decide +kernel, h2 rfl⟩
  by_cases q3 : x = 3
  · subst q3; exact ⟨144, by decide +kernel, h3 rfl⟩
  by_cases q4 : x = 4
  · subst q4; exact ⟨152, by decide +kernel, h4 rfl⟩
  by_cases q5 : x = 5
  · subst q5; exact ⟨160, by decide +kernel, h5 rfl⟩
  by_cases q6 : x = 6
  · subst q6; exact ⟨175, by decide +kernel, h6 rfl⟩
  by_cases q7 : x = 7
  · subst q7; exact ⟨183, by decide +kernel, h7 rfl⟩
  by_cases q8 : x = 8
  · subst q8; exact ⟨194, by decide +kernel, h8 rfl⟩
  by_cases q9 : x = 9
  · subst q9; exact ⟨206, by decide +kernel, h9 rfl⟩
  by_cases q10 : x = 10
  · subst q10; exact ⟨218, by decide +kernel, h10 rfl⟩
  by_cases q11 : x = 11
  · subst q11; exact ⟨229, by decide +kernel, h11 rfl⟩
  by_cases q12 : x = 12
  · subst q12; exact ⟨253, by decide +kernel, h12 rfl⟩
  by_cases q13 : x = 13
  · subst q13; exact ⟨253, by decide +kernel, h13 rfl⟩
  by_cases q14 : x = 14
  · subst q14; exact ⟨253, by decide +kernel, h14 rfl⟩
  by_cases q15 : x = 15
  · subst q15; exact ⟨253, by decide +kernel, h15 rfl⟩
  by_cases q16 : x = 16
  · subst q16; exact ⟨253, by decide +kernel, h16 rfl⟩
  by_cases q17 : x = 17
  · subst q17; exact ⟨253, by decide +kernel, h17 rfl⟩
  by_cases q18 : x = 18
  · subst q18; exact ⟨237, by decide +kernel, h18 rfl⟩
  by_cases q19 : x = 19
  · subst q19; exact ⟨245, by decide +kernel, h19 rfl⟩
  have hx : x.toInt < 0 ∨ 19 < x.toInt := by
    have r0 : x.toInt ≠ 0 := fun z => q0 (Int32.toInt_inj.mp z)
    have r1 : x.toInt ≠ 1 := fun z => q1 (Int32.toInt_inj.mp z)
    have r2 : x.toInt ≠ 2 := fun z => q2 (Int32.toInt_inj.mp z)
    have r3 : x.toInt ≠ 3 := fun z => q3 (Int32.toInt_inj.mp z)
    have r4 : x.toInt ≠ 4 := fun z => q4 (Int32.toInt_inj.mp z)
    have r5 : x.toInt ≠ 5 := fun z => q5 (Int32.toInt_inj.mp z)
    have r6 : x.toInt ≠ 6 := fun z => q6 (Int32.toInt_inj.mp z)
    have r7 : x.toInt ≠ 7 := fun z => q7 (Int32.toInt_inj.mp z)
    have r8 : x.toInt ≠ 8 := fun z => q8 (Int32.toInt_inj.mp z)
    have r9 : x.toInt ≠ 9 := fun z => q9 (Int32.toInt_inj.mp z)
    have r10 : x.toInt ≠ 10 := fun z => q10 (Int32.toInt_inj.mp z)
    have r11 : x.toInt ≠ 11 := fun z => q11 (Int32.toInt_inj.mp z)
    have r12 : x.toInt ≠ 12 := fun z => q12 (Int32.toInt_inj.mp z)
    have r13 : x.toInt ≠ 13 := fun z => q13 (Int32.toInt_inj.mp z)
    have r14 : x.toInt ≠ 14 := fun z => q14 (Int32.toInt_inj.mp z)
    have r15 : x.toInt ≠ 15 := fun z => q15 (Int32.toInt_inj.mp z)
    have r16 : x.toInt ≠ 16 := fun z => q16 (Int32.toInt_inj.mp z)
    have r17 : x.toInt ≠ 17 := fun z => q17 (Int32.toInt_inj.mp z)
    have r18 : x.toInt ≠ 18 := fun z => q18 (Int32.toInt_inj.mp z)
    have r19 : x.toInt ≠ 19 := fun z => q19 (Int32.toInt_inj.mp z)
    omega
  exact ⟨253, by simp only [swT, if_pos hx]; rfl, hd hx⟩
theorem sw_82_7 {x : Int32} {P : Nat → Prop} (h0 : x = 97 → P 114) (h1 : x = 99 → P 48) (h2 : x = 110 → P 85) (h3 : x = 112 → P 63) (hd : ¬ x = 97 → ¬ x = 99 → ¬ x = 110 → ¬ x = 112 → P 129) : ∃ t, swT (.lookupswitch 122 #[(97, 107), (99, 41), (110, 78), (112, 56)]) 7 x = some t ∧ P t := by
  by_cases q0 : x = 97
  · subst q0; exact ⟨114, by decide +kernel, h0 rfl⟩
  by_cases q1 : x = 99
  · subst q1; exact ⟨48, by decide +kernel, h1 rfl⟩
  by_cases q2 : x = 110
  · subst q2; exact ⟨85, by decide +kernel, h2 rfl⟩
  by_cases q3 : x = 112
  · subst q3; exact ⟨63, by decide +kernel, h3 rfl⟩
  have r0 : ¬ (97 : Int) = x.toInt := fun z => q0 (Int32.toInt_inj.mp z.symm)
  have t0 : ¬ x.toInt = (97 : Int) := fun z => q0 (Int32.toInt_inj.mp z)
  have r1 : ¬ (99 : Int) = x.toInt := fun z => q1 (Int32.toInt_inj.mp z.symm)
  have t1 : ¬ x.toInt = (99 : Int) := fun z => q1 (Int32.toInt_inj.mp z)
  have r2 : ¬ (110 : Int) = x.toInt := fun z => q2 (Int32.toInt_inj.mp z.symm)
  have t2 : ¬ x.toInt = (110 : Int) := fun z => q2 (Int32.toInt_inj.mp z)
  have r3 : ¬ (112 : Int) = x.toInt := fun z => q3 (Int32.toInt_inj.mp z.symm)
  have t3 : ¬ x.toInt = (112 : Int) := fun z => q3 (Int32.toInt_inj.mp z)
  refine ⟨129, ?_, hd q0 q1 q2 q3⟩
  simp [swT, Op.lookupswitch.offset, r0, t0, r1, t1, r2, t2, r3, t3]
