theorem nts_t {a b : Int32} (h : 0 ≤ a.toInt ∧ a.toInt < b.toInt ∧ b.toInt ≤ 400) : f_Hb_areNights a b = some 1 := by
  have n1 : ¬ a < 0 := by rw [fa_lt]; show ¬ a.toInt < 0; omega
  have n2 : ¬ b ≤ a := by rw [fa_le]; omega
  have n3 : ¬ (400 : Int32) < b := by rw [fa_lt]; show ¬ (400 : Int) < b.toInt; omega
  unfold f_Hb_areNights
  rw [if_neg n1, if_neg n2, if_neg n3]
theorem nts_f {a b : Int32} (h : ¬ (0 ≤ a.toInt ∧ a.toInt < b.toInt ∧ b.toInt ≤ 400)) : f_Hb_areNights a b = some 0 := by
  unfold f_Hb_areNights
  by_cases n1 : a < 0
  · rw [if_pos n1]
  · rw [if_neg n1]
    by_cases n2 : b ≤ a
    · rw [if_pos n2]
    · have n3 : (400 : Int32) < b := by
        rw [fa_lt] at n1
        have n1 : ¬ a.toInt < 0 := n1
        rw [fa_le] at n2
        rw [fa_lt]
        show (400 : Int) < b.toInt
        omega
      rw [if_neg n2, if_pos n3]
/-- the reference's two tests of a pair of days -/
theorem mnt_t {a b : Int32} (h : 0 ≤ a.toInt ∧ a.toInt < b.toInt ∧ b.toInt ≤ 400) : f_Md_isIn a (0 : Int32) (400 : Int32) = some 1 ∧ f_Md_isIn b (a + (1 : Int32)) (400 : Int32) = some 1 := by
  refine ⟨in_t ⟨h.1, by show a.toInt ≤ 400; omega⟩, in_t ⟨?_, h.2.2⟩⟩
  rw [add1 (by omega)]
  omega
theorem mnt_f {a b : Int32} {β : Type} {k1 : Option β} {k2 : Option β} (h : ¬ (0 ≤ a.toInt ∧ a.toInt < b.toInt ∧ b.toInt ≤ 400)) : ((f_Md_isIn a (0 : Int32) (400 : Int32)).bind fun v3 => if v3 = 0 then k1 else ((f_Md_isIn b (a + (1 : Int32)) (400 : Int32)).bind fun v4 => if v4 = 0 then k1 else k2)) = k1 := by
  by_cases c : (0 : Int32).toInt ≤ a.toInt ∧ a.toInt ≤ (400 : Int32).toInt
  · have c' : 0 ≤ a.toInt ∧ a.toInt ≤ 400 := c
    rw [in_t c, Option.bind_some, if10, in_f (by rw [add1 (by omega)]; intro q; have q2 : b.toInt ≤ 400 := q.2; exact h ⟨c'.1, by omega, q2⟩), Option.bind_some, if00]
  · rw [in_f c, Option.bind_some, if00]
theorem aw_loop {x m : MS} (hS : JS x m) (b : Int32) {a e : Nat} (hae : a < e) (he : e ≤ 400) (hlt : (m.1 3).toInt < 60) :
    ((∀ d, a ≤ d → d < e → ¬ Aw m b d) ∧ loop (fun z => Md_away_l55 b (nI a) (nI e) m z) (nI a) = some (1, pf (pa (pa (pa m 7 (m.1 3).toNatClampNeg b) 8 (m.1 3).toNatClampNeg (nI a)) 9 (m.1 3).toNatClampNeg (nI e)) 3 (m.1 3 + 1))) ∨
    ((∃ d, a ≤ d ∧ d < e ∧ Aw m b d) ∧ loop (fun z => Md_away_l55 b (nI a) (nI e) m z) (nI a) = some (0, m)) := by
  have s2 := hS.2.1
  have hi : inb (m.1 3) 60 = true := inb_iff.mpr ⟨s2.1, hlt⟩
  have hl := loop_first (f := fun z => Md_away_l55 b (nI a) (nI e) m z) (fun d => Aw m b d) (fun _ => ((0 : Int32), m)) (1, pf (pa (pa (pa m 7 (m.1 3).toNatClampNeg b) 8 (m.1 3).toNatClampNeg (nI a)) 9 (m.1 3).toNatClampNeg (nI e)) 3 (m.1 3 + 1)) e (by
      show Md_away_l55 b (nI a) (nI e) m (nI e) = _
      unfold Md_away_l55
      rw [if_pos (Int32.le_refl _), chk_t hi, bnd_eq, chk_t (b := inb ((pa m 7 (m.1 3).toNatClampNeg b).1 3) 60) hi, bnd_eq, chk_t (b := inb ((pa (pa m 7 (m.1 3).toNatClampNeg b) 8 ((pa m 7 (m.1 3).toNatClampNeg b).1 3).toNatClampNeg (nI a)).1 3) 60) hi]
      rfl) (e - a) a (by omega) (fun d h1 h2 c => by
      show Md_away_l55 b (nI a) (nI e) m (nI d) = _
      unfold Md_away_l55
      have n1 : ¬ nI e ≤ nI d := nI_ge h2 (by omega)
      rw [if_neg n1, (isAway_says hS b (by omega)).2 c, Option.bind_some, if00, bnd_eq, nI_1]) (fun d h1 h2 c => by
      show Md_away_l55 b (nI a) (nI e) m (nI d) = _
      unfold Md_away_l55
      have n1 : ¬ nI e ≤ nI d := nI_ge h2 (by omega)
      rw [if_neg n1, (isAway_says hS b (by omega)).1 c, Option.bind_some, if10]
      rfl)
  rcases hl with ⟨h1, h2⟩ | ⟨d, h1, h2, h3, h4, h5⟩
  · exact Or.inl ⟨h1, h2⟩
  · exact Or.inr ⟨⟨d, h1, h2, h3⟩, h5⟩
/-- the spans with one more -/
theorem js_add {x m : MS} (hS : JS x m) {b : Int32} {a e : Nat} (hb : 0 ≤ b.toInt ∧ b.toInt < (m.1 2).toInt) (hh : 0 ≤ (m.2 6 b.toNatClampNeg).toInt) (hae : a < e) (he : e ≤ 400) (hlt : (m.1 3).toInt < 60) (hno : ∀ d, a ≤ d → d < e → ¬ Aw m b d) :
    JS (pf (pa (pa (pa x 11 (x.1 4).toNatClampNeg b) 12 (x.1 4).toNatClampNeg (nI a)) 13 (x.1 4).toNatClampNeg (nI e)) 4 (x.1 4 + 1)) (pf (pa (pa (pa m 7 (m.1 3).toNatClampNeg b) 8 (m.1 3).toNatClampNeg (nI a)) 9 (m.1 3).toNatClampNeg (nI e)) 3 (m.1 3 + 1)) := by
  obtain ⟨s1, s2, ⟨f, hf, hfi⟩, s4, s5⟩ := id hS
  have hc := cl_ti s2.1
  have e1 : (m.1 3 + (1 : Int32)).toInt = (m.1 3).toInt + 1 := add1 (by omega)
  have hai : (nI a).toInt = (a : Int) := nI_toInt (by omega)
  have hei : (nI e).toInt = (e : Int) := nI_toInt (by omega)
  obtain ⟨n, hnn⟩ : ∃ n, n = (m.1 3).toNatClampNeg := ⟨_, rfl⟩
  rw [s1, ← hnn]
  rw [← hnn] at hc
  have dis : ∀ k : Nat, (k : Int) < (m.1 3).toInt → m.2 7 k = b → (m.2 9 k).toInt ≤ (a : Int) ∨ (e : Int) ≤ (m.2 8 k).toInt := by
    intro k hk hkb
    refine Classical.byContradiction fun q => ?_
    have r := s4 k hk
    by_cases c : (m.2 8 k).toInt ≤ (a : Int)
    · exact hno a (Nat.le_refl a) hae ⟨k, hk, hkb, c, by omega⟩
    · have h8 : 0 ≤ (m.2 8 k).toInt := r.2.2.2.1
      have h9 := cl_ti h8
      exact hno (m.2 8 k).toNatClampNeg (by omega) (by omega) ⟨k, hk, hkb, by omega, by omega⟩
  refine ⟨?_, ?_, ⟨fun k => if k = n then n else f k, ?_, ?_⟩, ?_, ?_⟩
  · show m.1 3 + 1 = m.1 3 + 1
    rfl
  · show cnt (m.1 3 + 1) 60
    exact ⟨by omega, by show _ ≤ (60 : Int); omega⟩
  · intro k hk
    have hk : (k : Int) < (m.1 3 + 1).toInt := hk
    show ((if k = n then n else f k : Nat) : Int) < (m.1 3 + 1).toInt ∧ upd (x.2 11) n b k = upd (m.2 7) n b (if k = n then n else f k) ∧ upd (x.2 12) n (nI a) k = upd (m.2 8) n (nI a) (if k = n then n else f k) ∧ upd (x.2 13) n (nI e) k = upd (m.2 9) n (nI e) (if k = n then n else f k)
    by_cases c : k = n
    · rw [if_pos c, c, pk_us, pk_us, pk_us, pk_us, pk_us, pk_us]
      exact ⟨by omega, rfl, rfl, rfl⟩
    · obtain ⟨g1, g2, g3, g4⟩ := hf k (by omega)
      have cf : f k ≠ n := by omega
      rw [if_neg c, pk_un c, pk_un c, pk_un c, pk_un cf, pk_un cf, pk_un cf]
      exact ⟨by omega, g2, g3, g4⟩
  · intro i j hij hj
    have hj : (j : Int) < (m.1 3 + 1).toInt := hj
    show (if i = n then n else f i) ≠ (if j = n then n else f j)
    have ci : i ≠ n := by omega
    rw [if_neg ci]
    have gi := (hf i (by omega)).1
    by_cases cj : j = n
    · rw [if_pos cj]
      omega
    · rw [if_neg cj]
      exact hfi i j hij (by omega)
  · intro k hk
    have hk : (k : Int) < (m.1 3 + 1).toInt := hk
    show 0 ≤ (upd (m.2 7) n b k).toInt ∧ (upd (m.2 7) n b k).toInt < (m.1 2).toInt ∧ 0 ≤ (m.2 6 (upd (m.2 7) n b k).toNatClampNeg).toInt ∧ 0 ≤ (upd (m.2 8) n (nI a) k).toInt ∧ (upd (m.2 8) n (nI a) k).toInt < (upd (m.2 9) n (nI e) k).toInt ∧ (upd (m.2 9) n (nI e) k).toInt ≤ 400
    by_cases c : k = n
    · rw [c, pk_us, pk_us, pk_us, hai, hei]
      exact ⟨hb.1, hb.2, hh, by omega, by omega, by omega⟩
    · rw [pk_un c, pk_un c, pk_un c]
      exact s4 k (by omega)
  · intro i j hi hj hij hb2
    have hi : (i : Int) < (m.1 3 + 1).toInt := hi
    have hj : (j : Int) < (m.1 3 + 1).toInt := hj
    have hb2 : upd (m.2 7) n b i = upd (m.2 7) n b j := hb2
    show (upd (m.2 9) n (nI e) i).toInt ≤ (upd (m.2 8) n (nI a) j).toInt ∨ (upd (m.2 9) n (nI e) j).toInt ≤ (upd (m.2 8) n (nI a) i).toInt
    by_cases ci : i = n
    · have cj : j ≠ n := fun q => hij (ci.trans q.symm)
      rw [ci, pk_us, pk_un cj] at hb2
      rw [ci, pk_us, pk_us, pk_un cj, pk_un cj, hai, hei]
      rcases dis j (by omega) hb2.symm with q | q
      · exact Or.inr q
      · exact Or.inl q
    · by_cases cj : j = n
      · rw [cj, pk_us, pk_un ci] at hb2
        rw [cj, pk_us, pk_us, pk_un ci, pk_un ci, hai, hei]
        rcases dis i (by omega) hb2 with q | q
        · exact Or.inl q
        · exact Or.inr q
      · rw [pk_un ci, pk_un cj] at hb2
        rw [pk_un ci, pk_un cj, pk_un ci, pk_un cj]
        exact s5 i j (by omega) (by omega) hij hb2
theorem st_away : St_away Inv := by
  intro a1 a2 a3 sx sm h
  obtain ⟨hL, hB, hO, hH, hS, hT, hK, hC, hW, hP, hR, hU⟩ := id h
  obtain ⟨o1, o2, o3, o4, o5, o6, o7⟩ := id hO
  have s1 := hS.1
  have s2 := hS.2.1
  have s22 : (sm.1 3).toInt ≤ 60 := s2.2
  unfold f_Hb_away f_Boats_has f_Md_away
  by_cases c1 : 0 ≤ a1.toInt ∧ a1.toInt < (sm.1 2).toInt
  · have hi := inb_of o6 c1
    have k1 := cl_ti c1.1
    have r := o7 a1.toNatClampNeg (by omega)
    rw [ib_t o6 c1, o1, has_t c1, Option.bind_some, Option.bind_some, if10, if10, chk_t hi, chk_t hi, bnd_eq, bnd_eq, o5]
    by_cases c4 : sm.2 6 a1.toNatClampNeg < 0
    · have c5 : sm.2 6 a1.toNatClampNeg = -1 := by
        rw [fa_lt] at c4
        have c4 : (sm.2 6 a1.toNatClampNeg).toInt < 0 := c4
        rw [fa_eq]
        show (sm.2 6 a1.toNatClampNeg).toInt = -1
        omega
      rw [if_pos c4, if_pos c5]
      exact ⟨0, _, _, rfl, rfl, h⟩
    · have c4' : 0 ≤ (sm.2 6 a1.toNatClampNeg).toInt := by
        rw [fa_lt] at c4
        have c4 : ¬ (sm.2 6 a1.toNatClampNeg).toInt < 0 := c4
        omega
      have c5 : ¬ sm.2 6 a1.toNatClampNeg = -1 := by
        rw [fa_eq]
        show ¬ (sm.2 6 a1.toNatClampNeg).toInt = -1
        omega
      rw [if_neg c4, if_neg c5]
      by_cases c6 : 0 ≤ a2.toInt ∧ a2.toInt < a3.toInt ∧ a3.toInt ≤ 400
      · obtain ⟨g1, g2⟩ := mnt_t c6
        rw [nts_t c6, g1, g2, Option.bind_some, Option.bind_some, Option.bind_some, if10, if10, if10]
        have e2 := cnt_nI c6.1
        have e3 := cnt_nI (z := a3) (by omega)
        have k2 := cl_ti c6.1
        have k3 := cl_ti (x := a3) (by omega)
        obtain ⟨a, f2⟩ : ∃ n, n = a2.toNatClampNeg := ⟨_, rfl⟩
        obtain ⟨e, f3⟩ : ∃ n, n = a3.toNatClampNeg := ⟨_, rfl⟩
        rw [← f2] at e2 k2
        rw [← f3] at e3 k3
        rw [e2, e3]
        obtain ⟨v, v1, v2, v3⟩ := nights_none hS a1 (a := a) (e := e) (by omega) (by omega)
        rw [v1, Option.bind_some]
        unfold f_Spans_add
        by_cases c7 : sm.1 3 = (60 : Int32)
        · have n7 : ¬ sx.1 4 < (60 : Int32) := by rw [s1, c7]; decide
          rw [if_pos c7, if_neg n7]
          by_cases c8 : v = 0
          · rw [if_pos c8]
            exact ⟨0, _, _, rfl, rfl, h⟩
          · rw [if_neg c8]
            exact ⟨0, _, _, rfl, rfl, h⟩
        · have hlt : (sm.1 3).toInt < 60 := by
            rw [fa_eq] at c7
            have c7 : ¬ (sm.1 3).toInt = 60 := c7
            omega
          have n7 : sx.1 4 < (60 : Int32) := by rw [s1, fa_lt]; exact hlt
          have hx : inb (sx.1 4) 60 = true := by rw [s1]; exact inb_iff.mpr ⟨s2.1, hlt⟩
          rw [if_neg c7]
          rcases aw_loop hS a1 (a := a) (e := e) (by omega) (by omega) hlt with ⟨w1, w2⟩ | ⟨⟨d, w1, w2, w3⟩, w4⟩
          · rw [w2, if_pos (v2.mpr w1), if_pos n7, chk_t hx, bnd_eq, chk_t (b := inb ((pa sx 11 (sx.1 4).toNatClampNeg a1).1 4) 60) hx, bnd_eq, chk_t (b := inb ((pa (pa sx 11 (sx.1 4).toNatClampNeg a1) 12 ((pa sx 11 (sx.1 4).toNatClampNeg a1).1 4).toNatClampNeg (nI a)).1 4) 60) hx]
            exact ⟨1, _, _, rfl, rfl, hL, hB, hO, hH, js_add hS c1 c4' (by omega) (by omega) hlt w1, hT, hK, hC, hW, hP, hR, hU⟩
          · have n8 : ¬ v = 0 := fun q => v2.mp q d w1 w2 w3
            rw [w4, if_neg n8]
            exact ⟨0, _, _, rfl, rfl, h⟩
      · rw [nts_f c6, mnt_f c6]
        exact ⟨0, _, _, rfl, rfl, h⟩
  · rw [ib_f o6 c1, o1, has_f c1]
    exact ⟨0, _, _, rfl, rfl, h⟩
