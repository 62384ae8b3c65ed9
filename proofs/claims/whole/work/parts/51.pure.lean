-- ===== counts =====
theorem sub1 {z : Int32} (h : -2147483648 < z.toInt) : (z - (1 : Int32)).toInt = z.toInt - 1 := by
  have := fb_rng z
  exact fb_subI (by show _ ≤ _ - (1 : Int); omega) (by show _ - (1 : Int) < _; omega)
theorem add1 {z : Int32} (h : z.toInt < 2147483647) : (z + (1 : Int32)).toInt = z.toInt + 1 := by
  have := fb_rng z
  exact fb_addI (by show _ ≤ _ + (1 : Int); omega) (by show _ + (1 : Int) < _; omega)
theorem add1sub1 {z : Int32} (h0 : 0 ≤ z.toInt) (h : z.toInt < 2147483647) : z + (1 : Int32) - (1 : Int32) = z := by
  rw [fa_eq, sub1 (by rw [add1 h]; omega), add1 h]
  omega
theorem cnt_nI {z : Int32} (h : 0 ≤ z.toInt) : z = nI z.toNatClampNeg := by
  have := fb_rng z
  have hc := cl_ti h
  rw [fa_eq, nI_toInt (by omega)]
  omega
theorem cl_lt {z : Int32} {n : Nat} (h : 0 ≤ z.toInt) (h2 : z.toInt < (n : Int)) : z.toNatClampNeg < n := by
  have := cl_ti h
  omega
theorem cl_add1 {z : Int32} (h : 0 ≤ z.toInt) (h2 : z.toInt < 2147483647) : (z + (1 : Int32)).toNatClampNeg = z.toNatClampNeg + 1 := by
  have h3 := cl_ti h
  have h4 := add1 h2
  have h5 := cl_ti (x := z + 1) (by omega)
  omega
theorem has_t {a z : Int32} (h : 0 ≤ a.toInt ∧ a.toInt < z.toInt) : (if a < 0 then some (0 : Int32) else if z ≤ a then some 0 else some 1) = some 1 := by
  rw [if_neg (by rw [fa_lt]; show ¬ a.toInt < 0; omega), if_neg (by rw [fa_le]; omega)]
theorem has_f {a z : Int32} (h : ¬ (0 ≤ a.toInt ∧ a.toInt < z.toInt)) : (if a < 0 then some (0 : Int32) else if z ≤ a then some 0 else some 1) = some 0 := by
  by_cases c : a < 0
  · rw [if_pos c]
  · rw [if_neg c, if_pos (by rw [fa_lt] at c; have c : ¬ a.toInt < 0 := c; rw [fa_le]; omega)]
theorem inc_t {a z : Int32} {n : Nat} (hz : cnt z n) (h : 0 ≤ a.toInt ∧ a.toInt < z.toInt) : f_Md_isIn a (0 : Int32) (z - (1 : Int32)) = some 1 := in_t ⟨h.1, by rw [sub1 (by have := hz.1; omega)]; omega⟩
theorem inc_f {a z : Int32} {n : Nat} (hz : cnt z n) (h : ¬ (0 ≤ a.toInt ∧ a.toInt < z.toInt)) : f_Md_isIn a (0 : Int32) (z - (1 : Int32)) = some 0 := in_f (by rw [sub1 (by have := hz.1; omega)]; intro q; exact h ⟨q.1, by omega⟩)
theorem ib_t {a : Int32} {s : MS} {n : Nat} (hz : cnt (s.1 2) n) (h : 0 ≤ a.toInt ∧ a.toInt < (s.1 2).toInt) : f_Md_isBoat a s = some 1 := by
  unfold f_Md_isBoat
  rw [inc_t hz h]
  rfl
theorem ib_f {a : Int32} {s : MS} {n : Nat} (hz : cnt (s.1 2) n) (h : ¬ (0 ≤ a.toInt ∧ a.toInt < (s.1 2).toInt)) : f_Md_isBoat a s = some 0 := by
  unfold f_Md_isBoat
  rw [inc_f hz h]
  rfl
theorem inb_of {a z : Int32} {n : Nat} (hz : cnt z n) (h : 0 ≤ a.toInt ∧ a.toInt < z.toInt) : inb a n = true := inb_iff.mpr ⟨h.1, by have := hz.2; omega⟩
theorem st_berth : St_berth Inv := by
  intro a1 a2 sx sm h
  obtain ⟨hL, hB, hO, hH, hS, hT, hK, hC, hW, hP, hR, hU⟩ := id h
  unfold f_Hb_berth f_Berths_add f_Md_berth
  simp only [wi_in]
  by_cases c1 : (10 : Int32).toInt ≤ a1.toInt ∧ a1.toInt ≤ (400 : Int32).toInt
  · rw [in_t c1, Option.bind_some, Option.bind_some, if10, if10]
    by_cases c2 : (0 : Int32).toInt ≤ a2.toInt ∧ a2.toInt ≤ (60 : Int32).toInt
    · rw [in_t c2, Option.bind_some, Option.bind_some, if10, if10]
      obtain ⟨b1, b2, b3, b4, b5⟩ := id hB
      have b4' := b4.2
      by_cases c3 : sm.1 1 = (10 : Int32)
      · rw [if_pos c3, if_neg (by rw [b1, c3]; decide)]
        exact ⟨-1, _, _, rfl, rfl, h⟩
      · have hlt : (sm.1 1).toInt < 10 := by
          rw [fa_eq] at c3
          have c3 : ¬ (sm.1 1).toInt = 10 := c3
          omega
        have hi : inb (sm.1 1) 10 = true := inb_iff.mpr ⟨b4.1, hlt⟩
        have hix : inb (sx.1 2) 10 = true := by rw [b1]; exact hi
        rw [if_neg c3, if_pos (by rw [b1, fa_lt]; exact hlt)]
        have hb31 : (sm.1 1).toInt < 2147483647 := by omega
        have e1 : (sm.1 1 + (1 : Int32)).toInt = (sm.1 1).toInt + 1 := add1 hb31
        have hcl := cl_ti b4.1
        rw [chk_t hix, bnd_eq, chk_t (b := inb ((pa sx 4 (sx.1 2).toNatClampNeg a1).1 2) 10) hix, bnd_eq, chk_t (b := inb ((pa (pa sx 4 (sx.1 2).toNatClampNeg a1) 5 ((pa sx 4 (sx.1 2).toNatClampNeg a1).1 2).toNatClampNeg a2).1 2) 10) hix]
        rw [chk_t hi, bnd_eq (pa sm 1 (sm.1 1).toNatClampNeg a1), chk_t (b := inb ((pa sm 1 (sm.1 1).toNatClampNeg a1).1 1) 10) hi]
        refine ⟨sm.1 1, _, _, congrArg (fun z => some (z, _)) b1, congrArg (fun z => some (z, _)) (add1sub1 b4.1 hb31), hL, ?_, ?_, ?_, hS, ?_, hK, hC, hW, hP, hR, hU⟩
        · refine ⟨?_, ?_, ?_, ?_, ?_⟩
          · show sx.1 2 + 1 = sm.1 1 + 1
            rw [b1]
          · show upd (sx.2 4) (sx.1 2).toNatClampNeg a1 = upd (sm.2 1) (sm.1 1).toNatClampNeg a1
            rw [b1, b2]
          · show upd (sx.2 5) (sx.1 2).toNatClampNeg a2 = upd (sm.2 2) (sm.1 1).toNatClampNeg a2
            rw [b1, b3]
          · show cnt (sm.1 1 + 1) 10
            exact ⟨by have := b4.1; omega, by show _ ≤ (10 : Int); omega⟩
          · intro k hk
            have hk : (k : Int) < (sm.1 1 + 1).toInt := hk
            show 10 ≤ (upd (sm.2 1) (sm.1 1).toNatClampNeg a1 k).toInt ∧ (upd (sm.2 1) (sm.1 1).toNatClampNeg a1 k).toInt ≤ 400 ∧ 0 ≤ (upd (sm.2 2) (sm.1 1).toNatClampNeg a2 k).toInt ∧ (upd (sm.2 2) (sm.1 1).toNatClampNeg a2 k).toInt ≤ 60
            by_cases e : k = (sm.1 1).toNatClampNeg
            · rw [e, pk_us, pk_us]
              exact ⟨c1.1, c1.2, c2.1, c2.2⟩
            · rw [pk_un e, pk_un e]
              exact b5 k (by omega)
        · obtain ⟨o1, o2, o3, o4, o5, o6, o7⟩ := hO
          refine ⟨o1, o2, o3, o4, o5, o6, fun k hk => ?_⟩
          obtain ⟨p1, p2, p3, p4, p5, p6, p7, p8⟩ := o7 k hk
          exact ⟨p1, p2, p3, p4, p5, p6, p7, (by omega : (sm.2 6 k).toInt < (sm.1 1 + 1).toInt)⟩
        · intro b hb
          have hb : (b : Int) < (sm.1 1 + 1).toInt := hb
          show ((upd (sx.2 6) (sx.1 2).toNatClampNeg (-1) b = -1 ∧ _) ∨ ∃ k : Nat, _ ∧ upd (sx.2 6) (sx.1 2).toNatClampNeg (-1) b = nI k ∧ _)
          by_cases e : b = (sx.1 2).toNatClampNeg
          · rw [e, pk_us]
            refine Or.inl ⟨rfl, fun k hk => ?_⟩
            have := (hO.2.2.2.2.2.2 k hk).2.2.2.2.2.2.2
            rw [b1, hcl]
            show (sm.2 6 k).toInt ≠ _
            omega
          · rw [pk_un e]
            exact hH b (by rw [b1] at e; omega)
        · obtain ⟨t1, t2, t3, t4, t5, t6, t7⟩ := hT
          refine ⟨t1, t2, t3, t4, t5, t6, fun k hk => ?_⟩
          obtain ⟨p1, p2, p3, p4, p5, p6, p7, p8⟩ := t7 k hk
          exact ⟨p1, p2, p3, p4, (by omega : (sm.2 11 k).toInt < (sm.1 1 + 1).toInt), p6, p7, p8⟩
    · rw [in_f c2]
      exact ⟨-1, _, _, rfl, rfl, h⟩
  · rw [in_f c1]
    exact ⟨-1, _, _, rfl, rfl, h⟩
theorem st_leaves : St_leaves Inv := by
  intro a1 a2 sx sm h
  obtain ⟨hL, hB, hO, hH, hS, hT, hK, hC, hW, hP, hR, hU⟩ := id h
  obtain ⟨t1, t2, t3, t4, t5, t6, t7⟩ := id hT
  unfold f_Hb_leaves f_Stays_has f_Md_leaves
  by_cases c1 : 0 ≤ a1.toInt ∧ a1.toInt < (sm.1 4).toInt
  · have hi := inb_of t6 c1
    rw [inc_t t6 c1, t1, has_t c1, Option.bind_some, Option.bind_some, if10, if10]
    simp only [chk_t hi, bnd_eq, t4, t5]
    have hcl := cl_ti c1.1
    have hr := t7 a1.toNatClampNeg (by omega)
    by_cases c2 : a2 ≤ sm.2 12 a1.toNatClampNeg
    · rw [if_pos c2, if_pos c2]
      exact ⟨0, _, _, rfl, rfl, h⟩
    · rw [if_neg c2, if_neg c2]
      by_cases c3 : a2 < sm.2 13 a1.toNatClampNeg
      · rw [if_pos c3, if_pos c3]
        refine ⟨1, _, _, rfl, rfl, hL, hB, hO, hH, hS, ⟨t1, t2, t3, t4, ?_, t6, fun k hk => ?_⟩, hK, hC, hW, hP, hR, hU⟩
        · show upd (sx.2 17) _ _ = upd (sm.2 13) _ _
          rw [t5]
        · obtain ⟨p1, p2, p3, p4, p5, p6, p7, p8⟩ := t7 k hk
          refine ⟨p1, p2, p3, p4, p5, p6, ?_⟩
          show (sm.2 12 k).toInt < (upd (sm.2 13) a1.toNatClampNeg a2 k).toInt ∧ (upd (sm.2 13) a1.toNatClampNeg a2 k).toInt ≤ 400
          by_cases e : k = a1.toNatClampNeg
          · subst e
            rw [pk_us]
            rw [fa_le] at c2
            rw [fa_lt] at c3
            omega
          · rw [pk_un e]
            exact ⟨p7, p8⟩
      · rw [if_neg c3, if_neg c3]
        exact ⟨0, _, _, rfl, rfl, h⟩
  · rw [inc_f t6 c1, t1, has_f c1]
    exact ⟨0, _, _, rfl, rfl, h⟩
theorem st_lift : St_lift Inv := by
  intro a1 a2 a3 sx sm h
  obtain ⟨hL, hB, hO, hH, hS, hT, hK, hC, hW, hP, hR, hU⟩ := id h
  obtain ⟨o1, o2, o3, o4, o5, o6, o7⟩ := id hO
  obtain ⟨q1, q2, q3, q4, q5, q6, q7, q8, q9, q10, q11, q12⟩ := id hC
  unfold f_Hb_lift f_Boats_has f_Md_lift
  simp only [wi_in]
  by_cases c1 : 0 ≤ a1.toInt ∧ a1.toInt < (sm.1 2).toInt
  · have hi := inb_of o6 c1
    rw [ib_t o6 c1, o1, has_t c1, Option.bind_some, Option.bind_some, if10, if10]
    by_cases c2 : 0 ≤ a2.toInt ∧ a2.toInt ≤ 399
    · rw [day_t c2, in_t (lo := 0) (hi := 399) c2, Option.bind_some, Option.bind_some, if10, if10]
      by_cases c3 : (1 : Int32).toInt ≤ a3.toInt ∧ a3.toInt ≤ (600 : Int32).toInt
      · rw [in_t c3, Option.bind_some, Option.bind_some, if10, if10, chk_t hi, bnd_eq]
        unfold f_Hoist_add
        have q8' := q8.2
        by_cases c4 : sm.1 15 = (40 : Int32)
        · rw [if_pos c4, if_neg (by rw [q5, c4]; decide)]
          exact ⟨-1, _, _, rfl, rfl, h⟩
        · have hlt : (sm.1 15).toInt < 40 := by
            rw [fa_eq] at c4
            have c4 : ¬ (sm.1 15).toInt = 40 := c4
            omega
          have hm : inb (sm.1 15) 40 = true := inb_iff.mpr ⟨q8.1, hlt⟩
          have hx : inb (sx.1 10) 40 = true := by rw [q5]; exact hm
          rw [if_neg c4, if_pos (by rw [q5, fa_lt]; exact hlt)]
          have hl31 : (sm.1 15).toInt < 2147483647 := by omega
          have e1 : (sm.1 15 + (1 : Int32)).toInt = (sm.1 15).toInt + 1 := add1 hl31
          have hcl := cl_ti q8.1
          have hca := cl_ti c1.1
          rw [chk_t hx, bnd_eq, chk_t (b := inb ((pa sx 28 (sx.1 10).toNatClampNeg (sx.2 9 a1.toNatClampNeg)).1 10) 40) hx, bnd_eq, chk_t (b := inb ((pa (pa sx 28 (sx.1 10).toNatClampNeg (sx.2 9 a1.toNatClampNeg)) 29 ((pa sx 28 (sx.1 10).toNatClampNeg (sx.2 9 a1.toNatClampNeg)).1 10).toNatClampNeg a2).1 10) 40) hx]
          rw [chk_t hm, bnd_eq (pa sm 21 (sm.1 15).toNatClampNeg a1), chk_t (b := inb ((pa sm 21 (sm.1 15).toNatClampNeg a1).1 15) 40) hm, bnd_eq (pa (pa sm 21 (sm.1 15).toNatClampNeg a1) 22 ((pa sm 21 (sm.1 15).toNatClampNeg a1).1 15).toNatClampNeg a2), chk_t (b := inb ((pa (pa sm 21 (sm.1 15).toNatClampNeg a1) 22 ((pa sm 21 (sm.1 15).toNatClampNeg a1).1 15).toNatClampNeg a2).1 15) 40) hm]
          refine ⟨sm.1 15, _, _, congrArg (fun z => some (z, _)) q5, congrArg (fun z => some (z, _)) (add1sub1 q8.1 hl31), hL, hB, hO, hH, hS, hT, hK, ?_, hW, hP, hR, hU⟩
          refine ⟨q1, q2, q3, q4, ?_, ?_, ?_, ?_, q9, q10, q11, ?_⟩
          · show sx.1 10 + 1 = sm.1 15 + 1
            rw [q5]
          · show upd (sx.2 29) (sx.1 10).toNatClampNeg a2 = upd (sm.2 22) (sm.1 15).toNatClampNeg a2
            rw [q5, q6]
          · show upd (sx.2 30) (sx.1 10).toNatClampNeg a3 = upd (sm.2 23) (sm.1 15).toNatClampNeg a3
            rw [q5, q7]
          · show cnt (sm.1 15 + 1) 40
            exact ⟨by have := q8.1; omega, by show _ ≤ (40 : Int); omega⟩
          · intro k hk
            have hk : (k : Int) < (sm.1 15 + 1).toInt := hk
            show 0 ≤ (upd (sm.2 21) (sm.1 15).toNatClampNeg a1 k).toInt ∧ (upd (sm.2 21) (sm.1 15).toNatClampNeg a1 k).toInt < (sm.1 2).toInt ∧ upd (sx.2 28) (sx.1 10).toNatClampNeg (sx.2 9 a1.toNatClampNeg) k = sm.2 5 (upd (sm.2 21) (sm.1 15).toNatClampNeg a1 k).toNatClampNeg ∧ 0 ≤ (upd (sm.2 22) (sm.1 15).toNatClampNeg a2 k).toInt ∧ (upd (sm.2 22) (sm.1 15).toNatClampNeg a2 k).toInt ≤ 399 ∧ 1 ≤ (upd (sm.2 23) (sm.1 15).toNatClampNeg a3 k).toInt ∧ (upd (sm.2 23) (sm.1 15).toNatClampNeg a3 k).toInt ≤ 600
            rw [q5]
            by_cases e : k = (sm.1 15).toNatClampNeg
            · rw [e, pk_us, pk_us, pk_us, pk_us]
              exact ⟨c1.1, c1.2, by rw [o4], c2.1, c2.2, c3.1, c3.2⟩
            · rw [pk_un e, pk_un e, pk_un e, pk_un e]
              exact q12 k (by omega)
      · rw [in_f c3]
        exact ⟨-1, _, _, rfl, rfl, h⟩
    · rw [day_f c2, in_f (lo := 0) (hi := 399) c2]
      exact ⟨-1, _, _, rfl, rfl, h⟩
  · rw [ib_f o6 c1, o1, has_f c1]
    exact ⟨-1, _, _, rfl, rfl, h⟩
-- ===== the levels =====
theorem held_scan (s : MS) {n : Nat} (hz : cnt (s.1 2) 10) : f_Berths_isAnyHeld s = some (scan (fun b => if s.2 6 b = -1 then none else some (1 : Int32)) 0 (s.1 2).toNatClampNeg 0) := by
  have hc := cl_ti hz.1
  have hz2 := hz.2
  unfold f_Berths_isAnyHeld
  have e0 : (0 : Int32) = nI 0 := nI_0.symm
  rw [e0]
  refine loop_scan (fun b => if s.2 6 b = -1 then none else some (1 : Int32)) (nI 0) (s.1 2).toNatClampNeg ?_ ?_ 0 (Nat.zero_le _)
  · unfold Berths_isAnyHeld_l2
    rw [if_pos (by rw [← cnt_nI hz.1]; exact Int32.le_refl _)]
    rfl
  · intro k hk
    have hki : (nI k).toInt = (k : Int) := nI_toInt (by omega)
    unfold Berths_isAnyHeld_l2
    rw [if_neg (by rw [fa_le, hki]; omega), chk_t (inb_iff.mpr ⟨by omega, by rw [hki]; show (k : Int) < 10; omega⟩), bnd_eq, nI_clamp (by omega)]
    by_cases e : s.2 6 k = -1
    · rw [if_pos e, if_pos e, bnd_eq, nI_1]
    · rw [if_neg e, if_neg e]
      rfl
theorem bound_scan (s : MS) (hz : cnt (s.1 2) 30) : f_Md_isBound s = some (scan (fun b => if s.2 6 b < 0 then none else some (1 : Int32)) (if s.1 4 ≤ 0 then 0 else 1) (s.1 2).toNatClampNeg 0) := by
  have hc := cl_ti hz.1
  have hz2 := hz.2
  unfold f_Md_isBound
  have e0 : (0 : Int32) = nI 0 := nI_0.symm
  rw [show loop (fun z => Md_isBound_l2 s z) (0 : Int32) = loop (fun z => Md_isBound_l2 s z) (nI 0) by rw [nI_0]]
  refine loop_scan (fun b => if s.2 6 b < 0 then none else some (1 : Int32)) (if s.1 4 ≤ 0 then 0 else 1) (s.1 2).toNatClampNeg ?_ ?_ 0 (Nat.zero_le _)
  · unfold Md_isBound_l2
    rw [if_pos (by rw [← cnt_nI hz.1]; exact Int32.le_refl _)]
    by_cases e : s.1 4 ≤ 0
    · rw [if_pos e, if_pos e]
      rfl
    · rw [if_neg e, if_neg e]
      rfl
  · intro k hk
    have hki : (nI k).toInt = (k : Int) := nI_toInt (by omega)
    unfold Md_isBound_l2
    rw [if_neg (by rw [fa_le, hki]; omega), chk_t (inb_iff.mpr ⟨by omega, by rw [hki]; show (k : Int) < 30; omega⟩), bnd_eq, nI_clamp (by omega)]
    by_cases e : s.2 6 k < 0
    · rw [if_pos e, if_pos e, bnd_eq, nI_1]
    · rw [if_neg e, if_neg e]
      rfl
/-- whether the levels are fixed: the class's way and the reference's -/
theorem fixed_eq {sx sm : MS} (h : Inv sx sm) : ∃ b : Bool, f_Hb_isTideFixed sx = some (if b then 1 else 0) ∧ f_Md_isBound sm = some (if b then 1 else 0) := by
  obtain ⟨hL, hB, hO, hH, hS, hT, hK, hC, hW, hP, hR, hU⟩ := id h
  have hbz : cnt (sx.1 2) 10 := by rw [hB.1]; exact hB.2.2.2.1
  have hoz := hO.2.2.2.2.2.1
  have cb := cl_ti hB.2.2.2.1.1
  have co := cl_ti hoz.1
  rw [bound_scan sm hoz]
  unfold f_Hb_isTideFixed
  rw [held_scan sx (n := 0) hbz, hT.1, hB.1]
  by_cases e : sm.1 4 ≤ 0
  · rw [if_neg (by rw [fa_lt]; rw [fa_le] at e; omega), Option.bind_some, if_pos e]
    by_cases hx : ∃ b : Nat, b < (sm.1 1).toNatClampNeg ∧ sx.2 6 b ≠ -1
    · have hy : ∃ k : Nat, k < (sm.1 2).toNatClampNeg ∧ ¬ sm.2 6 k < 0 := by
        obtain ⟨b, hb, hne⟩ := hx
        rcases hH b (by omega) with ⟨h1, -⟩ | ⟨k, h1, h2, h3, -⟩
        · exact absurd h1 hne
        · exact ⟨k, by omega, by rw [fa_lt]; show ¬ _ < (0 : Int); omega⟩
      refine ⟨true, ?_, ?_⟩
      · obtain ⟨b, hb, h1, h2⟩ : ∃ b, b < (sm.1 1).toNatClampNeg ∧ sx.2 6 b ≠ -1 ∧ ∀ j, j < b → ¬ (j < (sm.1 1).toNatClampNeg ∧ sx.2 6 j ≠ -1) := by
          obtain ⟨k, hk, hk2⟩ := pk_least _ hx
          exact ⟨k, hk.1, hk.2, hk2⟩
        rw [scan_hit (r := 1) (j := b) (Nat.zero_le b) (by omega) (if_neg h1) (fun i _ hi => if_pos (Classical.byContradiction fun q => h2 i hi ⟨by omega, q⟩))]
        rfl
      · obtain ⟨b, hb, h1, h2⟩ : ∃ b, b < (sm.1 2).toNatClampNeg ∧ ¬ sm.2 6 b < 0 ∧ ∀ j, j < b → ¬ (j < (sm.1 2).toNatClampNeg ∧ ¬ sm.2 6 j < 0) := by
          obtain ⟨k, hk, hk2⟩ := pk_least _ hy
          exact ⟨k, hk.1, hk.2, hk2⟩
        rw [scan_hit (r := 1) (j := b) (Nat.zero_le b) (by omega) (if_neg h1) (fun i _ hi => if_pos (Classical.byContradiction fun q => h2 i hi ⟨by omega, q⟩))]
        rfl
    · have hy : ∀ k : Nat, k < (sm.1 2).toNatClampNeg → sm.2 6 k < 0 := by
        intro k hk
        refine Classical.byContradiction fun q => hx ?_
        have r := hO.2.2.2.2.2.2 k (by omega)
        have q2 : 0 ≤ (sm.2 6 k).toInt := by
          rw [fa_lt] at q
          have q : ¬ (sm.2 6 k).toInt < 0 := q
          omega
        have q3 := cl_ti q2
        refine ⟨(sm.2 6 k).toNatClampNeg, by omega, ?_⟩
        rcases hH (sm.2 6 k).toNatClampNeg (by omega) with ⟨-, h1⟩ | ⟨j, h1, h2, -⟩
        · exact absurd q3.symm (h1 k (by omega))
        · rw [h2]
          intro e2
          have hz3 : (sm.1 2).toInt ≤ 30 := hoz.2
          rw [fa_eq, nI_toInt (by omega)] at e2
          have e2 : (j : Int) = -1 := e2
          omega
      refine ⟨false, ?_, ?_⟩
      · rw [scan_none (fun j _ hj => if_pos (Classical.byContradiction fun q => hx ⟨j, by omega, q⟩))]
        rfl
      · rw [scan_none (fun j _ hj => if_pos (hy j (by omega)))]
        rfl
  · rw [if_pos (by rw [fa_lt]; rw [fa_le] at e; omega), if_neg e]
    refine ⟨true, rfl, ?_⟩
    by_cases hx : ∃ k : Nat, k < (sm.1 2).toNatClampNeg ∧ ¬ sm.2 6 k < 0
    · obtain ⟨b, hb, h1, h2⟩ : ∃ b, b < (sm.1 2).toNatClampNeg ∧ ¬ sm.2 6 b < 0 ∧ ∀ j, j < b → ¬ (j < (sm.1 2).toNatClampNeg ∧ ¬ sm.2 6 j < 0) := by
        obtain ⟨k, hk, hk2⟩ := pk_least _ hx
        exact ⟨k, hk.1, hk.2, hk2⟩
      rw [scan_hit (r := 1) (j := b) (Nat.zero_le b) (by omega) (if_neg h1) (fun i _ hi => if_pos (Classical.byContradiction fun q => h2 i hi ⟨by omega, q⟩))]
      rfl
    · rw [scan_none (fun j _ hj => if_pos (Classical.byContradiction fun q => hx ⟨j, by omega, q⟩))]
      rfl
theorem st_level : St_level Inv := by
  intro a1 a2 sx sm h
  obtain ⟨hL, hB, hO, hH, hS, hT, hK, hC, hW, hP, hR, hU⟩ := id h
  obtain ⟨l1, l2, l3, l4, l5⟩ := id hL
  have lz : cnt (sm.1 0) 30 := ⟨by omega, by show _ ≤ (30 : Int); omega⟩
  obtain ⟨b, h1, h2⟩ := fixed_eq h
  unfold f_Hb_level f_Md_level
  rw [h1, h2, Option.bind_some]
  by_cases c1 : 0 ≤ a1.toInt ∧ a1.toInt < (sm.1 0).toInt
  · rw [inc_t lz c1, Option.bind_some, if10]
    have n1 : ¬ a1 < 0 := by rw [fa_lt]; show ¬ a1.toInt < 0; omega
    have n2 : ¬ sx.1 1 ≤ a1 := by rw [l1, fa_le]; omega
    have hi := inb_of lz c1
    by_cases c2 : (0 : Int32).toInt ≤ a2.toInt ∧ a2.toInt ≤ (40 : Int32).toInt
    · rw [in_t c2, Option.bind_some, if10, Option.bind_some]
      have n3 : ¬ a2 < 0 := by rw [fa_lt]; omega
      have n4 : a2 ≤ 40 := by rw [fa_le]; exact c2.2
      cases b with
      | true => exact ⟨0, _, _, rfl, rfl, h⟩
      | false =>
        unfold f_Tide_put
        rw [if_neg n1, if_neg n2, if_neg n3, if_pos n4, chk_t hi, chk_t hi]
        refine ⟨1, _, _, rfl, rfl, ⟨l1, ?_, l3, l4, fun k hk => ?_⟩, hB, hO, hH, hS, hT, hK, hC, hW, hP, hR, hU⟩
        · show upd (sx.2 3) _ _ = upd (sm.2 0) _ _
          rw [l2]
        · show 0 ≤ (upd (sm.2 0) a1.toNatClampNeg a2 k).toInt ∧ (upd (sm.2 0) a1.toNatClampNeg a2 k).toInt ≤ 40
          by_cases e : k = a1.toNatClampNeg
          · rw [e, pk_us]
            exact c2
          · rw [pk_un e]
            exact l5 k hk
    · rw [in_f c2]
      cases b with
      | true => exact ⟨0, _, _, rfl, rfl, h⟩
      | false =>
        unfold f_Tide_put
        rw [if_neg n1, if_neg n2]
        by_cases n3 : a2 < 0
        · rw [if_pos n3]
          exact ⟨0, _, _, rfl, rfl, h⟩
        · have n4 : ¬ a2 ≤ 40 := by rw [fa_le]; rw [fa_lt] at n3; omega
          rw [if_neg n3, if_neg n4]
          exact ⟨0, _, _, rfl, rfl, h⟩
  · rw [inc_f lz c1]
    cases b with
    | true => exact ⟨0, _, _, rfl, rfl, h⟩
    | false =>
      unfold f_Tide_put
      by_cases n1 : a1 < 0
      · rw [if_pos n1]
        exact ⟨0, _, _, rfl, rfl, h⟩
      · have n2 : sx.1 1 ≤ a1 := by rw [l1, fa_le]; rw [fa_lt] at n1; have n1 : ¬ a1.toInt < 0 := n1; omega
        rw [if_neg n1, if_pos n2]
        exact ⟨0, _, _, rfl, rfl, h⟩
/-- a row with its first i places 0 -/
def zr (f : Nat → Int32) (i : Nat) : Nat → Int32 := fun k => if k < i then 0 else f k
theorem zr_0 (f : Nat → Int32) : zr f 0 = f := funext fun k => if_neg (Nat.not_lt_zero k)
theorem zr_s (f : Nat → Int32) (i : Nat) : upd (zr f i) i 0 = zr f (i + 1) := by
  funext k
  by_cases e : k = i
  · rw [e, pk_us]
    exact (if_pos (Nat.lt_succ_self i)).symm
  · rw [pk_un e]
    show (if k < i then (0 : Int32) else f k) = (if k < i + 1 then 0 else f k)
    by_cases c : k < i
    · rw [if_pos c, if_pos (by omega)]
    · rw [if_neg c, if_neg (by omega)]
theorem pr_pr (s : MS) (i : Nat) (f g : Nat → Int32) : pr (pr s i f) i g = pr s i g := by
  unfold pr
  refine Prod.ext rfl (funext fun j => ?_)
  show (if j = i then g else if j = i then f else s.2 j) = (if j = i then g else s.2 j)
  by_cases c : j = i
  · rw [if_pos c, if_pos c]
  · rw [if_neg c, if_neg c, if_neg c]
theorem pr_at (s : MS) (i : Nat) (f : Nat → Int32) : (pr s i f).2 i = f := if_pos rfl
theorem pr_self (s : MS) (i : Nat) : pr s i (s.2 i) = s := by
  unfold pr
  refine Prod.ext rfl (funext fun j => ?_)
  show (if j = i then s.2 i else s.2 j) = s.2 j
  by_cases c : j = i
  · rw [if_pos c, c]
  · rw [if_neg c]
theorem pa_pr (s : MS) (i k : Nat) (f : Nat → Int32) (v : Int32) : pa (pr s i f) i k v = pr s i (upd f k v) := by
  unfold pa
  rw [pr_pr, pr_at]
theorem fill_eq (s : MS) : f_Ar_fill16 0 s = some (pr s 3 (zr (s.2 3) 30)) := by
  unfold f_Ar_fill16
  rw [show (((0 : Int32), s) : Int32 × MS) = (fun k : Nat => ((nI k, pr s 3 (zr (s.2 3) k)) : Int32 × MS)) 0 by show _ = (nI 0, _); rw [zr_0, pr_self, nI_0]]
  refine loop_up (fun k : Nat => ((nI k, pr s 3 (zr (s.2 3) k)) : Int32 × MS)) 30 _ (fun k hk => ?_) ?_
  · have hki : (nI k).toInt = (k : Int) := nI_toInt (by omega)
    show Ar_fill16_l5 0 30 (nI k) (pr s 3 (zr (s.2 3) k)) = _
    unfold Ar_fill16_l5
    rw [if_neg (by rw [fa_le, hki]; show ¬ (30 : Int) ≤ k; omega), chk_t (inb_iff.mpr ⟨by omega, by rw [hki]; show (k : Int) < 30; omega⟩), bnd_eq, bnd_eq, nI_clamp (by omega), pa_pr, zr_s, nI_1]
  · show Ar_fill16_l5 0 30 (nI 30) (pr s 3 (zr (s.2 3) 30)) = _
    unfold Ar_fill16_l5
    rw [if_pos (by decide)]
    rfl
theorem mlev_eq (s : MS) : loop (fun z => Md_levels_l26 z.1 z.2) ((0 : Int32), s) = some (1, pr s 0 (zr (s.2 0) 30)) := by
  rw [show (((0 : Int32), s) : Int32 × MS) = (fun k : Nat => ((nI k, pr s 0 (zr (s.2 0) k)) : Int32 × MS)) 0 by show _ = (nI 0, _); rw [zr_0, pr_self, nI_0]]
  refine loop_up (fun k : Nat => ((nI k, pr s 0 (zr (s.2 0) k)) : Int32 × MS)) 30 _ (fun k hk => ?_) ?_
  · have hki : (nI k).toInt = (k : Int) := nI_toInt (by omega)
    show Md_levels_l26 (nI k) (pr s 0 (zr (s.2 0) k)) = _
    unfold Md_levels_l26
    rw [if_neg (by rw [fa_le, hki]; show ¬ (30 : Int) ≤ k; omega), chk_t (inb_iff.mpr ⟨by omega, by rw [hki]; show (k : Int) < 30; omega⟩), bnd_eq, bnd_eq, nI_clamp (by omega), pa_pr, zr_s, nI_1]
  · show Md_levels_l26 (nI 30) (pr s 0 (zr (s.2 0) 30)) = _
    unfold Md_levels_l26
    rw [if_pos (by decide)]
    rfl
theorem st_levels : St_levels Inv := by
  intro a1 sx sm h
  obtain ⟨hL, hB, hO, hH, hS, hT, hK, hC, hW, hP, hR, hU⟩ := id h
  obtain ⟨l1, l2, l3, l4, l5⟩ := id hL
  obtain ⟨b, h1, h2⟩ := fixed_eq h
  unfold f_Hb_levels f_Md_levels
  rw [h1, h2, Option.bind_some]
  by_cases c1 : (1 : Int32).toInt ≤ a1.toInt ∧ a1.toInt ≤ (30 : Int32).toInt
  · rw [in_t c1, Option.bind_some, if10, Option.bind_some]
    cases b with
    | true => exact ⟨0, _, _, rfl, rfl, h⟩
    | false =>
      unfold f_Tide_restart
      have n1 : ¬ a1 < 1 := by rw [fa_lt]; omega
      have n2 : a1 ≤ 30 := by rw [fa_le]; exact c1.2
      rw [if_neg n1, if_pos n2, fill_eq]
      show ∃ r sx2 sm2, _ ∧ loop (fun z => Md_levels_l26 z.1 z.2) ((0 : Int32), pf sm 0 a1) = some (r, sm2) ∧ _
      rw [mlev_eq]
      refine ⟨1, _, _, rfl, rfl, ⟨rfl, ?_, c1.1, c1.2, fun k hk => ?_⟩, hB, hO, hH, hS, hT, hK, hC, hW, hP, hR, hU⟩
      · show zr (sx.2 3) 30 = zr (sm.2 0) 30
        rw [l2]
      · show 0 ≤ (zr (sm.2 0) 30 k).toInt ∧ (zr (sm.2 0) 30 k).toInt ≤ 40
        have e : zr (sm.2 0) 30 k = 0 := if_pos hk
        rw [e]
        decide
  · rw [in_f c1]
    cases b with
    | true => exact ⟨0, _, _, rfl, rfl, h⟩
    | false =>
      unfold f_Tide_restart
      by_cases n1 : a1 < 1
      · rw [if_pos n1]
        exact ⟨0, _, _, rfl, rfl, h⟩
      · have n2 : ¬ a1 ≤ 30 := by rw [fa_le]; rw [fa_lt] at n1; omega
        rw [if_neg n1, if_neg n2]
        exact ⟨0, _, _, rfl, rfl, h⟩
