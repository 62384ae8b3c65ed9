def bt (x : Int32) (i : Nat) : Bool := x.toBitVec.getLsbD i
theorem b_ext {x y : Int32} (h : ∀ i, i < 32 → bt x i = bt y i) : x = y := Int32.toBitVec_inj.mp (BitVec.eq_of_getLsbD_eq (fun i hi => h i hi))
theorem b_and (x y : Int32) (i : Nat) : bt (x &&& y) i = (bt x i && bt y i) := by unfold bt; rw [Int32.toBitVec_and, BitVec.getLsbD_and]
theorem b_big {x : Int32} {i : Nat} (h : 32 ≤ i) : bt x i = false := BitVec.getLsbD_of_ge _ _ h
theorem b_255 (i : Nat) : bt 255 i = decide (i < 8) := by
  rcases Nat.lt_or_ge i 32 with h | h
  · exact (by decide +kernel : ∀ i, i < 32 → bt 255 i = decide (i < 8)) i h
  · rw [b_big h, decide_eq_false (by omega)]
theorem s_l : ∀ n, n < 32 → ((nI n &&& 31).toBitVec.smod 32).toNat = n := by decide +kernel
theorem s_u : ∀ n, n < 32 → (((nI n).toUInt32 &&& Int32.toUInt32 31).toBitVec % 32).toNat = n := by decide +kernel
theorem b_ushr (n : Nat) (hn : n < 32) (x : Int32) (i : Nat) : bt ((x.toUInt32 >>> ((nI n).toUInt32 &&& Int32.toUInt32 31)).toInt32) i = bt x (n + i) := by
  show (x.toUInt32 >>> ((nI n).toUInt32 &&& Int32.toUInt32 31)).toBitVec.getLsbD i = x.toUInt32.toBitVec.getLsbD (n + i)
  rw [UInt32.toBitVec_shiftRight]
  show (x.toUInt32.toBitVec >>> (((nI n).toUInt32 &&& Int32.toUInt32 31).toBitVec % 32).toNat).getLsbD i = _
  rw [s_u n hn, BitVec.getLsbD_ushiftRight]
theorem b_sshr (n : Nat) (hn : n < 32) (x : Int32) {i : Nat} (hi : i < 32) : bt (x >>> (nI n &&& 31)) i = if n + i < 32 then bt x (n + i) else bt x 31 := by
  unfold bt
  rw [Int32.toBitVec_shiftRight]
  show (x.toBitVec.sshiftRight ((nI n &&& 31).toBitVec.smod 32).toNat).getLsbD i = _
  rw [s_l n hn, BitVec.getLsbD_sshiftRight, BitVec.msb_eq_getLsbD_last]
  simp [hi]
theorem byte_eq (n : Nat) (hn : n ≤ 24) (w : Int32) : (w.toUInt32 >>> ((nI n).toUInt32 &&& Int32.toUInt32 31)).toInt32 &&& (255 : Int32) = (w >>> (nI n &&& 31)) &&& (255 : Int32) := by
  refine b_ext fun i hi => ?_
  rw [b_and, b_and, b_255, b_ushr n (by omega), b_sshr n (by omega) w hi]
  by_cases c : i < 8
  · rw [if_pos (by omega)]
  · rw [decide_eq_false c, Bool.and_false, Bool.and_false]
theorem byte_rng (z : Int32) : 0 ≤ (z &&& (255 : Int32)).toInt ∧ (z &&& (255 : Int32)).toInt ≤ 255 := by
  obtain ⟨j, h1, h2⟩ := pk_andE z (m := 255) 8 (by decide)
  rw [h2, nI_toInt (by omega)]
  omega
theorem inv_byte {x m : MS} (h : Inv x m) (hlt : (m.1 19).toInt < 200) {v : Int32} (hv : 0 ≤ v.toInt ∧ v.toInt ≤ 255) : Inv (pf (pa x 37 (x.1 18).toNatClampNeg v) 18 (x.1 18 + 1)) (pf (pa m 29 (m.1 19).toNatClampNeg v) 19 (m.1 19 + 1)) := by
  obtain ⟨hL, hB, hO, hH, hS, hT, hK, hC, hW, hP, hR, hU⟩ := h
  obtain ⟨p1, p2, p3, p4⟩ := hP
  have e1 : (m.1 19 + (1 : Int32)).toInt = (m.1 19).toInt + 1 := add1 (by omega)
  refine ⟨hL, hB, hO, hH, hS, hT, hK, hC, hW, ⟨?_, ?_, ?_, fun k => ?_⟩, hR, hU⟩
  · show x.1 18 + 1 = m.1 19 + 1
    rw [p1]
  · show upd (x.2 37) (x.1 18).toNatClampNeg v = upd (m.2 29) (m.1 19).toNatClampNeg v
    rw [p1, p2]
  · show cnt (m.1 19 + 1) 200
    exact ⟨by have := p3.1; omega, by show _ ≤ (200 : Int); omega⟩
  · show 0 ≤ (upd (m.2 29) (m.1 19).toNatClampNeg v k).toInt ∧ (upd (m.2 29) (m.1 19).toNatClampNeg v k).toInt ≤ 255
    by_cases e : k = (m.1 19).toNatClampNeg
    · rw [e, pk_us]
      exact hv
    · rw [pk_un e]
      exact p4 k
/-- one byte on both tapes -/
theorem four_step {x m : MS} (h : Inv x m) (hlt : (m.1 19).toInt < 200) (w : Int32) {n : Nat} (hn : n ≤ 24) : ∃ x2 m2 : MS, Tape_addFour_l3 w (nI n) x = some (.inl (nI n + (-8 : Int32), x2)) ∧ Md_four_l3 w (nI n) m = some (.inl (nI n + (-8 : Int32), m2)) ∧ Inv x2 m2 ∧ (m2.1 19).toInt = (m.1 19).toInt + 1 := by
  have hP := h.2.2.2.2.2.2.2.2.2.1
  have p3 := hP.2.2.1
  have n1 : ¬ nI n < 0 := nI_pos (by omega)
  have n2 : ¬ (200 : Int32) ≤ x.1 18 := by rw [hP.1, fa_le]; show ¬ (200 : Int) ≤ _; omega
  have hm : inb (m.1 19) 200 = true := inb_iff.mpr ⟨p3.1, hlt⟩
  have hx : inb (x.1 18) 200 = true := by rw [hP.1]; exact hm
  refine ⟨_, _, ?_, ?_, inv_byte h hlt (byte_rng (w >>> (nI n &&& 31))), ?_⟩
  · unfold Tape_addFour_l3
    rw [if_neg n1, if_neg n2, chk_t hx, byte_eq n hn w]
    rfl
  · unfold Md_four_l3
    rw [if_neg n1, chk_t hm]
    rfl
  · exact add1 (by omega)
theorem four_eq {x m : MS} (h : Inv x m) (hlt : (m.1 19).toInt ≤ 196) (w : Int32) : ∃ x2 m2 : MS, f_Tape_addFour w x = some x2 ∧ f_Md_four w m = some m2 ∧ Inv x2 m2 ∧ (m2.1 19).toInt = (m.1 19).toInt + 4 := by
  obtain ⟨x1, m1, a1, b1, h1, c1⟩ := four_step h (by omega) w (n := 24) (by omega)
  obtain ⟨x2, m2, a2, b2, h2, c2⟩ := four_step h1 (by omega) w (n := 16) (by omega)
  obtain ⟨x3, m3, a3, b3, h3, c3⟩ := four_step h2 (by omega) w (n := 8) (by omega)
  obtain ⟨x4, m4, a4, b4, h4, c4⟩ := four_step h3 (by omega) w (n := 0) (by omega)
  refine ⟨x4, m4, ?_, ?_, h4, by omega⟩
  · unfold f_Tape_addFour
    refine (loop_inl (f := fun z => Tape_addFour_l3 w z.1 z.2) (s := (nI 24, x)) (s' := (nI 16, x1)) a1).trans ?_
    refine (loop_inl (f := fun z => Tape_addFour_l3 w z.1 z.2) (s := (nI 16, x1)) (s' := (nI 8, x2)) a2).trans ?_
    refine (loop_inl (f := fun z => Tape_addFour_l3 w z.1 z.2) (s := (nI 8, x2)) (s' := (nI 0, x3)) a3).trans ?_
    refine (loop_inl (f := fun z => Tape_addFour_l3 w z.1 z.2) (s := (nI 0, x3)) (s' := (-8, x4)) a4).trans ?_
    exact loop_inr (f := fun z => Tape_addFour_l3 w z.1 z.2) (by show Tape_addFour_l3 w (-8) x4 = _; unfold Tape_addFour_l3; rw [if_pos (by decide)]; rfl)
  · unfold f_Md_four
    refine (loop_inl (f := fun z => Md_four_l3 w z.1 z.2) (s := (nI 24, m)) (s' := (nI 16, m1)) b1).trans ?_
    refine (loop_inl (f := fun z => Md_four_l3 w z.1 z.2) (s := (nI 16, m1)) (s' := (nI 8, m2)) b2).trans ?_
    refine (loop_inl (f := fun z => Md_four_l3 w z.1 z.2) (s := (nI 8, m2)) (s' := (nI 0, m3)) b3).trans ?_
    refine (loop_inl (f := fun z => Md_four_l3 w z.1 z.2) (s := (nI 0, m3)) (s' := (-8, m4)) b4).trans ?_
    exact loop_inr (f := fun z => Md_four_l3 w z.1 z.2) (by show Md_four_l3 w (-8) m4 = _; unfold Md_four_l3; rw [if_pos (by decide)]; rfl)
theorem st_feed : St_feed Inv := by
  intro a1 a2 a3 a4 a5 sx sm h
  have hP := h.2.2.2.2.2.2.2.2.2.1
  have p3 := hP.2.2.1
  have p32 : (sm.1 19).toInt ≤ 200 := p3.2
  have p31 := p3.1
  have he : (sm.1 19 + (20 : Int32)).toInt = (sm.1 19).toInt + 20 := fb_addI (by show _ ≤ _ + (20 : Int); omega) (by show _ + (20 : Int) < _; omega)
  unfold f_Hb_feed f_Md_feed
  rw [hP.1]
  by_cases c : sm.1 19 + (20 : Int32) ≤ (200 : Int32)
  · have c' : (sm.1 19).toInt + 20 ≤ 200 := by
      rw [fa_le, he] at c
      exact c
    obtain ⟨x1, m1, q1, r1, i1, n1⟩ := four_eq h (by omega) a1
    obtain ⟨x2, m2, q2, r2, i2, n2⟩ := four_eq i1 (by omega) a2
    obtain ⟨x3, m3, q3, r3, i3, n3⟩ := four_eq i2 (by omega) a3
    obtain ⟨x4, m4, q4, r4, i4, n4⟩ := four_eq i3 (by omega) a4
    obtain ⟨x5, m5, q5, r5, i5, n5⟩ := four_eq i4 (by omega) a5
    rw [if_pos c, if_pos c, q1, Option.bind_some, q2, Option.bind_some, q3, Option.bind_some, q4, Option.bind_some, q5, r1, Option.bind_some, Option.bind_some, r2, Option.bind_some, r3, Option.bind_some, r4, Option.bind_some, r5, Option.bind_some]
    exact ⟨m5.1 19, x5, m5, congrArg (fun z => some (z, x5)) i5.2.2.2.2.2.2.2.2.2.1.1, rfl, i5⟩
  · rw [if_neg c, if_neg c]
    exact ⟨-1, _, _, rfl, rfl, h⟩
