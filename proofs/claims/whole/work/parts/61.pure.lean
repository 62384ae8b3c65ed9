/-- one more boat -/
def bX (s : MS) (a b c d : Int32) : MS := pf (pa (pa (pa (pa s 7 (s.1 3).toNatClampNeg a) 8 (s.1 3).toNatClampNeg b) 9 (s.1 3).toNatClampNeg c) 10 (s.1 3).toNatClampNeg d) 3 (s.1 3 + 1)
def bM (s : MS) (a b c d : Int32) : MS := pf (pa (pa (pa (pa s 3 (s.1 2).toNatClampNeg a) 4 (s.1 2).toNatClampNeg b) 5 (s.1 2).toNatClampNeg c) 6 (s.1 2).toNatClampNeg d) 2 (s.1 2 + 1)
theorem badd_eq {s : MS} (h0 : 0 ≤ (s.1 3).toInt) (hlt : (s.1 3).toInt < 30) (b p a e : Int32) : f_Boats_add b p a e s = some (s.1 3, bX s b p a e) := by
  have hi : inb (s.1 3) 30 = true := inb_iff.mpr ⟨h0, hlt⟩
  have n1 : s.1 3 < (30 : Int32) := by rw [fa_lt]; exact hlt
  unfold f_Boats_add
  rw [if_pos n1, chk_t hi, bnd_eq, chk_t (b := inb ((pa s 7 (s.1 3).toNatClampNeg b).1 3) 30) hi, bnd_eq, chk_t (b := inb ((pa (pa s 7 (s.1 3).toNatClampNeg b) 8 ((pa s 7 (s.1 3).toNatClampNeg b).1 3).toNatClampNeg p).1 3) 30) hi, bnd_eq, chk_t (b := inb ((pa (pa (pa s 7 (s.1 3).toNatClampNeg b) 8 ((pa s 7 (s.1 3).toNatClampNeg b).1 3).toNatClampNeg p) 9 ((pa (pa s 7 (s.1 3).toNatClampNeg b) 8 ((pa s 7 (s.1 3).toNatClampNeg b).1 3).toNatClampNeg p).1 3).toNatClampNeg a).1 3) 30) hi]
  rfl
theorem bput_eq {s : MS} (h0 : 0 ≤ (s.1 2).toInt) (hlt : (s.1 2).toInt < 30) (b p a e : Int32) : Md_boat_j77 b p a e s = some (s.1 2, bM s b p a e) := by
  have hi : inb (s.1 2) 30 = true := inb_iff.mpr ⟨h0, hlt⟩
  have e2 : (bM s b p a e).1 2 - (1 : Int32) = s.1 2 := add1sub1 h0 (by omega)
  unfold Md_boat_j77
  rw [chk_t hi, bnd_eq, chk_t (b := inb ((pa s 3 (s.1 2).toNatClampNeg b).1 2) 30) hi, bnd_eq, chk_t (b := inb ((pa (pa s 3 (s.1 2).toNatClampNeg b) 4 ((pa s 3 (s.1 2).toNatClampNeg b).1 2).toNatClampNeg p).1 2) 30) hi, bnd_eq, chk_t (b := inb ((pa (pa (pa s 3 (s.1 2).toNatClampNeg b) 4 ((pa s 3 (s.1 2).toNatClampNeg b).1 2).toNatClampNeg p) 5 ((pa (pa s 3 (s.1 2).toNatClampNeg b) 4 ((pa s 3 (s.1 2).toNatClampNeg b).1 2).toNatClampNeg p).1 2).toNatClampNeg a).1 2) 30) hi]
  exact congrArg (fun z => some (z, _)) e2
/-- all of the invariant but the holders, with one more boat; x' is the class's state, alike but for the holders -/
theorem inv_boat {x x' m : MS} (h : Inv x m) (hlt : (m.1 2).toInt < 30) {a b c d : Int32} (ha : 10 ≤ a.toInt ∧ a.toInt ≤ 400) (hb : 0 ≤ b.toInt ∧ b.toInt ≤ 60) (hc : 1 ≤ c.toInt ∧ c.toInt ≤ 500) (hd : -1 ≤ d.toInt ∧ d.toInt < (m.1 1).toInt) (hx1 : x'.1 = (bX x a b c d).1) (hx2 : ∀ j, j ≠ 6 → x'.2 j = (bX x a b c d).2 j) (hH' : JH x' (bM m a b c d)) : Inv x' (bM m a b c d) := by
  obtain ⟨hL, hB, hO, hH, hS, hT, hK, hC, hW, hP, hR, hU⟩ := h
  obtain ⟨o1, o2, o3, o4, o5, o6, o7⟩ := hO
  have hcn := cl_ti o6.1
  have e1 : (m.1 2 + (1 : Int32)).toInt = (m.1 2).toInt + 1 := add1 (by omega)
  obtain ⟨n, hnn⟩ : ∃ n, n = (m.1 2).toNatClampNeg := ⟨_, rfl⟩
  have old : ∀ z : Int32, 0 ≤ z.toInt → z.toInt < (m.1 2).toInt → z.toNatClampNeg ≠ (m.1 2).toNatClampNeg := fun z h1 h2 => by
    have := cl_ti h1
    omega
  have q1 : ∀ j, x'.1 j = (bX x a b c d).1 j := fun j => by rw [hx1]
  refine ⟨?_, ?_, ?_, hH', ?_, ?_, ?_, ?_, ?_, ?_, ?_, ?_⟩
  · unfold JL
    rw [q1 1, hx2 3 (by decide)]
    exact hL
  · unfold JB
    rw [q1 2, hx2 4 (by decide), hx2 5 (by decide)]
    exact hB
  · unfold JO
    rw [q1 3, hx2 7 (by decide), hx2 8 (by decide), hx2 9 (by decide), hx2 10 (by decide)]
    refine ⟨?_, ?_, ?_, ?_, ?_, ?_, ?_⟩
    · show x.1 3 + 1 = m.1 2 + 1
      rw [o1]
    · show upd (x.2 7) (x.1 3).toNatClampNeg a = upd (m.2 3) (m.1 2).toNatClampNeg a
      rw [o1, o2]
    · show upd (x.2 8) (x.1 3).toNatClampNeg b = upd (m.2 4) (m.1 2).toNatClampNeg b
      rw [o1, o3]
    · show upd (x.2 9) (x.1 3).toNatClampNeg c = upd (m.2 5) (m.1 2).toNatClampNeg c
      rw [o1, o4]
    · show upd (x.2 10) (x.1 3).toNatClampNeg d = upd (m.2 6) (m.1 2).toNatClampNeg d
      rw [o1, o5]
    · show cnt (m.1 2 + 1) 30
      exact ⟨by have := o6.1; omega, by show _ ≤ (30 : Int); omega⟩
    · intro k hk
      have hk : (k : Int) < (m.1 2 + 1).toInt := hk
      show 10 ≤ (upd (m.2 3) (m.1 2).toNatClampNeg a k).toInt ∧ (upd (m.2 3) (m.1 2).toNatClampNeg a k).toInt ≤ 400 ∧ 0 ≤ (upd (m.2 4) (m.1 2).toNatClampNeg b k).toInt ∧ (upd (m.2 4) (m.1 2).toNatClampNeg b k).toInt ≤ 60 ∧ 1 ≤ (upd (m.2 5) (m.1 2).toNatClampNeg c k).toInt ∧ (upd (m.2 5) (m.1 2).toNatClampNeg c k).toInt ≤ 500 ∧ -1 ≤ (upd (m.2 6) (m.1 2).toNatClampNeg d k).toInt ∧ (upd (m.2 6) (m.1 2).toNatClampNeg d k).toInt < (m.1 1).toInt
      by_cases e : k = (m.1 2).toNatClampNeg
      · rw [e, pk_us, pk_us, pk_us, pk_us]
        exact ⟨ha.1, ha.2, hb.1, hb.2, hc.1, hc.2, hd.1, hd.2⟩
      · rw [pk_un e, pk_un e, pk_un e, pk_un e]
        exact o7 k (by omega)
  · unfold JS
    rw [q1 4, hx2 11 (by decide), hx2 12 (by decide), hx2 13 (by decide)]
    obtain ⟨s1, s2, s3, s4, s5⟩ := hS
    refine ⟨s1, s2, s3, fun k hk => ?_, s5⟩
    obtain ⟨r1, r2, r3, r4⟩ := s4 k hk
    refine ⟨r1, ?_, ?_, r4⟩
    · show (m.2 7 k).toInt < (m.1 2 + 1).toInt
      omega
    · show 0 ≤ (upd (m.2 6) (m.1 2).toNatClampNeg d (m.2 7 k).toNatClampNeg).toInt
      rw [pk_un (old _ r1 r2)]
      exact r3
  · unfold JT
    rw [q1 5, hx2 14 (by decide), hx2 15 (by decide), hx2 16 (by decide), hx2 17 (by decide)]
    obtain ⟨t1, t2, t3, t4, t5, t6, t7⟩ := hT
    refine ⟨t1, t2, t3, t4, t5, t6, fun k hk => ?_⟩
    obtain ⟨r1, r2, r3, r4⟩ := t7 k hk
    refine ⟨r1, ?_, ?_, r4⟩
    · show (m.2 10 k).toInt < (m.1 2 + 1).toInt
      omega
    · show (upd (m.2 6) (m.1 2).toNatClampNeg d (m.2 10 k).toNatClampNeg).toInt = -1
      rw [pk_un (old _ r1 r2)]
      exact r3
  · unfold JK
    rw [q1 0, hx2 0 (by decide), hx2 1 (by decide), hx2 2 (by decide)]
    exact hK
  · unfold JC
    rw [q1 11, q1 12, q1 13, q1 10, hx2 27 (by decide), hx2 29 (by decide), hx2 30 (by decide), hx2 28 (by decide)]
    obtain ⟨u1, u2, u3, u4, u5, u6, u7, u8, u9, u10, u11, u12⟩ := hC
    refine ⟨u1, u2, u3, u4, u5, u6, u7, u8, u9, u10, u11, fun k hk => ?_⟩
    obtain ⟨r1, r2, r3, r4⟩ := u12 k hk
    refine ⟨r1, ?_, ?_, r4⟩
    · show (m.2 21 k).toInt < (m.1 2 + 1).toInt
      omega
    · show x.2 28 k = upd (m.2 5) (m.1 2).toNatClampNeg c (m.2 21 k).toNatClampNeg
      rw [pk_un (old _ r1 r2)]
      exact r3
  · unfold JW
    rw [q1 14, q1 16, q1 17, q1 15, hx2 32 (by decide), hx2 34 (by decide), hx2 36 (by decide), hx2 33 (by decide), hx2 31 (by decide)]
    obtain ⟨u1, u2, u3, u4, u5, u6, u7, u8, u9, u10, u11⟩ := hW
    refine ⟨u1, u2, u3, u4, u5, u6, u7, u8, u9, fun k hk => ?_, u11⟩
    obtain ⟨r1, r2, r3, r4⟩ := u10 k hk
    refine ⟨r1, ?_, ?_, r4⟩
    · show (m.2 25 k).toInt < (m.1 2 + 1).toInt
      omega
    · show x.2 33 k = upd (m.2 3) (m.1 2).toNatClampNeg a (m.2 25 k).toNatClampNeg
      rw [pk_un (old _ r1 r2)]
      exact r3
  · unfold JP
    rw [q1 18, hx2 37 (by decide)]
    exact hP
  · unfold JR
    rw [q1 20, q1 21]
    exact hR
  · unfold JU
    rw [q1 28, hx2 39 (by decide), hx2 40 (by decide), hx2 41 (by decide)]
    exact hU
