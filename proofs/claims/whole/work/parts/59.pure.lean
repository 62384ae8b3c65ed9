/-- a berth that can be -/
def Can (m : MS) (k p a e : Nat) : Prop := Fit m (m.2 3 k) (m.2 4 k) p a e ∧ NoOwner m p a e ∧ NoStay m p a e
theorem xstay_loop {x m : MS} (h : Inv x m) {k a e : Nat} (hk : (k : Int) < (m.1 2).toInt) (hae : a < e) (he : e ≤ 400) :
    ((∀ p : Nat, (p : Int) < (m.1 1).toInt → ¬ Can m k p a e) ∧ loop (fun z => Hb_stay_l53 (nI k) (nI a) (nI e) x z) (0 : Int32) = some (-1, x)) ∨
    ∃ p : Nat, (p : Int) < (m.1 1).toInt ∧ Can m k p a e ∧ (∀ j : Nat, j < p → ¬ Can m k j a e) ∧ (m.1 4 = 40 → loop (fun z => Hb_stay_l53 (nI k) (nI a) (nI e) x z) (0 : Int32) = some (-1, x)) ∧ ((m.1 4).toInt < 40 → loop (fun z => Hb_stay_l53 (nI k) (nI a) (nI e) x z) (0 : Int32) = some (x.1 5, sX x (nI k) (nI p) (nI a) (nI e))) := by
  obtain ⟨hL, hB, hO, hH, hS, hT, hK, hC, hW, hP, hR, hU⟩ := id h
  have b4 := hB.2.2.2.1
  have b42 : (m.1 1).toInt ≤ 10 := b4.2
  have t6 := hT.2.2.2.2.2.1
  have t62 : (m.1 4).toInt ≤ 40 := t6.2
  have hc := cl_ti b4.1
  have hn : m.1 1 = nI (m.1 1).toNatClampNeg := cnt_nI b4.1
  obtain ⟨n, hnn⟩ : ∃ n, n = (m.1 1).toNatClampNeg := ⟨_, rfl⟩
  rw [← hnn] at hc hn
  have nostay : ∀ p : Nat, (NoStay m p a e → f_Stays_atBerth (nI p) (nI a) (nI e) x = some (-1)) ∧ (¬ NoStay m p a e → ∃ s : Nat, ¬ nI s = -1 ∧ f_Stays_atBerth (nI p) (nI a) (nI e) x = some (nI s)) := by
    intro p
    rcases atBerth_eq hT (nI p) (a := a) (e := e) (by omega) (by omega) with ⟨w1, w2⟩ | ⟨s2, w1, w2, w3, w4, w5⟩
    · exact ⟨fun _ => w2, fun q => absurd w1 q⟩
    · refine ⟨fun q => absurd ⟨w2, w3⟩ (q s2 w1), fun _ => ⟨s2, ?_, w5⟩⟩
      rw [fa_eq, nI_toInt (by omega)]
      show ¬ (s2 : Int) = -1
      omega
  have hl := loop_first (f := fun z => Hb_stay_l53 (nI k) (nI a) (nI e) x z) (fun p => Can m k p a e) (fun p => if m.1 4 = 40 then ((-1 : Int32), x) else (x.1 5, sX x (nI k) (nI p) (nI a) (nI e))) ((-1 : Int32), x) n (by
      show Hb_stay_l53 (nI k) (nI a) (nI e) x (nI n) = _
      unfold Hb_stay_l53
      rw [if_pos (by rw [hB.1, hn]; exact Int32.le_refl _)]
      rfl) n 0 (by omega) (fun p _ hp c => by
      show Hb_stay_l53 (nI k) (nI a) (nI e) x (nI p) = _
      have n1 : ¬ x.1 2 ≤ nI p := by rw [hB.1, hn]; exact nI_ge hp (by omega)
      have g := canLie_says h hk (p := p) (by omega) hae he
      unfold Hb_stay_l53
      rw [if_neg n1]
      by_cases c1 : Fit m (m.2 3 k) (m.2 4 k) p a e ∧ NoOwner m p a e
      · have c2 : ¬ NoStay m p a e := fun q => c ⟨c1.1, c1.2, q⟩
        obtain ⟨s, z1, z2⟩ := (nostay p).2 c2
        rw [g.1 c1, Option.bind_some, if10, z2, Option.bind_some, if_neg z1, bnd_eq, nI_1]
      · rw [g.2 c1, Option.bind_some, if00, bnd_eq, nI_1]) (fun p _ hp c => by
      show Hb_stay_l53 (nI k) (nI a) (nI e) x (nI p) = _
      have n1 : ¬ x.1 2 ≤ nI p := by rw [hB.1, hn]; exact nI_ge hp (by omega)
      have g := canLie_says h hk (p := p) (by omega) hae he
      unfold Hb_stay_l53
      rw [if_neg n1, g.1 ⟨c.1, c.2.1⟩, Option.bind_some, if10, (nostay p).1 c.2.2, Option.bind_some, if_pos rfl]
      by_cases c3 : m.1 4 = 40
      · have n2 : ¬ x.1 5 < (40 : Int32) := by rw [hT.1, c3]; decide
        unfold f_Stays_add
        rw [if_neg n2, if_pos c3]
        rfl
      · have hlt : (x.1 5).toInt < 40 := by
          rw [fa_eq] at c3
          have c3 : ¬ (m.1 4).toInt = 40 := c3
          rw [hT.1]
          omega
        rw [sadd_eq (by rw [hT.1]; exact t6.1) hlt, if_neg c3]
        rfl)
  rw [nI_0] at hl
  rcases hl with ⟨h1, h2⟩ | ⟨p, h1, h2, h3, h4, h5⟩
  · exact Or.inl ⟨fun p hp => h1 p (Nat.zero_le p) (by omega), h2⟩
  · refine Or.inr ⟨p, by omega, h3, fun j hj => h4 j (Nat.zero_le j) hj, fun q => ?_, fun q => ?_⟩
    · rw [h5, if_pos q]
    · rw [h5, if_neg (fun z => by rw [z] at q; exact absurd q (by decide))]
theorem mstay_loop {x m : MS} (h : Inv x m) {k a e : Nat} (hk : (k : Int) < (m.1 2).toInt) (hae : a < e) (he : e ≤ 400) (hlt : (m.1 4).toInt < 40) :
    ((∀ p : Nat, (p : Int) < (m.1 1).toInt → ¬ Can m k p a e) ∧ loop (fun z => Md_stay_l65 (nI k) (nI a) (nI e) m z) (0 : Int32) = some (-1, m)) ∨
    ∃ p : Nat, (p : Int) < (m.1 1).toInt ∧ Can m k p a e ∧ (∀ j : Nat, j < p → ¬ Can m k j a e) ∧ loop (fun z => Md_stay_l65 (nI k) (nI a) (nI e) m z) (0 : Int32) = some (m.1 4, sM m (nI k) (nI p) (nI a) (nI e)) := by
  obtain ⟨hL, hB, hO, hH, hS, hT, hK, hC, hW, hP, hR, hU⟩ := id h
  have b4 := hB.2.2.2.1
  have b42 : (m.1 1).toInt ≤ 10 := b4.2
  have t6 := hT.2.2.2.2.2.1
  have hc := cl_ti b4.1
  have hn : m.1 1 = nI (m.1 1).toNatClampNeg := cnt_nI b4.1
  obtain ⟨n, hnn⟩ : ∃ n, n = (m.1 1).toNatClampNeg := ⟨_, rfl⟩
  rw [← hnn] at hc hn
  have hl := loop_first (f := fun z => Md_stay_l65 (nI k) (nI a) (nI e) m z) (fun p => Can m k p a e) (fun p => (m.1 4, sM m (nI k) (nI p) (nI a) (nI e))) ((-1 : Int32), m) n (by
      show Md_stay_l65 (nI k) (nI a) (nI e) m (nI n) = _
      unfold Md_stay_l65 Md_stay_j103
      rw [if_pos (by rw [hn]; exact Int32.le_refl _), if_pos hn.symm]
      rfl) n 0 (by omega) (fun p _ hp c => by
      show Md_stay_l65 (nI k) (nI a) (nI e) m (nI p) = _
      have n1 : ¬ m.1 1 ≤ nI p := by rw [hn]; exact nI_ge hp (by omega)
      have g := fitsAll_says hL hB hO hk (p := p) (by omega) hae he
      have g2 := isEmpty_says h (p := p) (by omega) hae he
      unfold Md_stay_l65
      rw [if_neg n1]
      by_cases c1 : Fit m (m.2 3 k) (m.2 4 k) p a e
      · rw [g.1 c1, Option.bind_some, if10, g2.2 (fun q => c ⟨c1, q.1, q.2⟩), Option.bind_some, if00, bnd_eq, nI_1]
      · rw [g.2 c1, Option.bind_some, if00, bnd_eq, nI_1]) (fun p _ hp c => by
      show Md_stay_l65 (nI k) (nI a) (nI e) m (nI p) = _
      have n1 : ¬ m.1 1 ≤ nI p := by rw [hn]; exact nI_ge hp (by omega)
      have n2 : ¬ nI p = m.1 1 := by rw [hn, nI_eq (by omega) (by omega)]; omega
      have g := fitsAll_says hL hB hO hk (p := p) (by omega) hae he
      have g2 := isEmpty_says h (p := p) (by omega) hae he
      unfold Md_stay_l65 Md_stay_j103
      rw [if_neg n1, g.1 c.1, Option.bind_some, if10, g2.1 ⟨c.2.1, c.2.2⟩, Option.bind_some, if10, if_neg n2, sput_eq t6.1 hlt, Option.bind_some]
      have e2 : (sM m (nI k) (nI p) (nI a) (nI e)).1 4 - (1 : Int32) = m.1 4 := add1sub1 t6.1 (by omega)
      rw [e2]
      rfl)
  rw [nI_0] at hl
  rcases hl with ⟨h1, h2⟩ | ⟨p, h1, h2, h3, h4, h5⟩
  · exact Or.inl ⟨fun p hp => h1 p (Nat.zero_le p) (by omega), h2⟩
  · exact Or.inr ⟨p, by omega, h3, fun j hj => h4 j (Nat.zero_le j) hj, h5⟩
theorem st_stay : St_stay Inv := by
  intro a1 a2 a3 sx sm h
  obtain ⟨hL, hB, hO, hH, hS, hT, hK, hC, hW, hP, hR, hU⟩ := id h
  obtain ⟨o1, o2, o3, o4, o5, o6, o7⟩ := id hO
  have b42 : (sm.1 1).toInt ≤ 10 := hB.2.2.2.1.2
  have t6 := hT.2.2.2.2.2.1
  have t62 : (sm.1 4).toInt ≤ 40 := t6.2
  have o62 : (sm.1 2).toInt ≤ 30 := o6.2
  unfold f_Hb_stay f_Boats_has f_Md_stay
  by_cases c1 : 0 ≤ a1.toInt ∧ a1.toInt < (sm.1 2).toInt
  · have hi := inb_of o6 c1
    have k1 := cl_ti c1.1
    have r := o7 a1.toNatClampNeg (by omega)
    rw [ib_t o6 c1, o1, has_t c1, Option.bind_some, Option.bind_some, if10, if10, chk_t hi, chk_t hi, bnd_eq, bnd_eq, o5]
    by_cases c4 : 0 ≤ sm.2 6 a1.toNatClampNeg
    · have c5 : ¬ sm.2 6 a1.toNatClampNeg = -1 := by
        rw [fa_le] at c4
        have c4 : 0 ≤ (sm.2 6 a1.toNatClampNeg).toInt := c4
        rw [fa_eq]
        show ¬ (sm.2 6 a1.toNatClampNeg).toInt = -1
        omega
      rw [if_pos c4, if_neg c5]
      exact ⟨-1, _, _, rfl, rfl, h⟩
    · have c4' : (sm.2 6 a1.toNatClampNeg).toInt = -1 := by
        rw [fa_le] at c4
        have c4 : ¬ 0 ≤ (sm.2 6 a1.toNatClampNeg).toInt := c4
        omega
      have c5 : sm.2 6 a1.toNatClampNeg = -1 := by
        rw [fa_eq]
        exact c4'
      rw [if_neg c4, if_pos c5]
      by_cases c6 : 0 ≤ a2.toInt ∧ a2.toInt < a3.toInt ∧ a3.toInt ≤ 400
      · obtain ⟨g1, g2⟩ := mnt_t c6
        rw [nts_t c6, g1, g2, Option.bind_some, Option.bind_some, Option.bind_some, if10, if10, if10]
        have e1 := cnt_nI c1.1
        have e2 := cnt_nI c6.1
        have e3 := cnt_nI (z := a3) (by omega)
        have k2 := cl_ti c6.1
        have k3 := cl_ti (x := a3) (by omega)
        obtain ⟨k, f1⟩ : ∃ n, n = a1.toNatClampNeg := ⟨_, rfl⟩
        obtain ⟨a, f2⟩ : ∃ n, n = a2.toNatClampNeg := ⟨_, rfl⟩
        obtain ⟨e, f3⟩ : ∃ n, n = a3.toNatClampNeg := ⟨_, rfl⟩
        rw [← f1] at e1 k1 c4'
        rw [← f2] at e2 k2
        rw [← f3] at e3 k3
        have hs := hasStay_says hT a1 (a := a) (e := e) (by omega) (by omega)
        rw [e1] at hs
        have hob := ofBoat_eq hT (nI k) (a := a) (e := e) (by omega) (by omega)
        rw [e1, e2, e3]
        by_cases c7 : sm.1 4 = (40 : Int32)
        · rw [if_pos c7]
          rcases hob with ⟨w1, w2⟩ | ⟨s2, w1, w2, w3, w4, w5⟩
          · rw [w2, Option.bind_some, if_pos rfl]
            rcases xstay_loop h (k := k) (a := a) (e := e) (by omega) (by omega) (by omega) with ⟨z1, z2⟩ | ⟨p, z1, z2, z3, z4, z5⟩
            · rw [z2]
              exact ⟨-1, _, _, rfl, rfl, h⟩
            · rw [z4 c7]
              exact ⟨-1, _, _, rfl, rfl, h⟩
          · have n1 : ¬ nI s2 = -1 := by
              rw [fa_eq, nI_toInt (by omega)]
              show ¬ (s2 : Int) = -1
              omega
            rw [w5, Option.bind_some, if_neg n1]
            exact ⟨-1, _, _, rfl, rfl, h⟩
        · have hlt : (sm.1 4).toInt < 40 := by
            rw [fa_eq] at c7
            have c7 : ¬ (sm.1 4).toInt = 40 := c7
            omega
          rw [if_neg c7]
          rcases hob with ⟨w1, w2⟩ | ⟨s2, w1, w2, w3, w4, w5⟩
          · rw [w2, hs.2 (fun ⟨s, q1, q2, q3⟩ => w1 s q1 ⟨q2, q3⟩), Option.bind_some, Option.bind_some, if_pos rfl, if00]
            rcases xstay_loop h (k := k) (a := a) (e := e) (by omega) (by omega) (by omega) with ⟨z1, z2⟩ | ⟨p, z1, z2, z3, z4, z5⟩
            · rcases mstay_loop h (k := k) (a := a) (e := e) (by omega) (by omega) (by omega) hlt with ⟨y1, y2⟩ | ⟨q, y1, y2, y3, y4⟩
              · rw [z2, y2]
                exact ⟨-1, _, _, rfl, rfl, h⟩
              · exact absurd y2 (z1 q y1)
            · rcases mstay_loop h (k := k) (a := a) (e := e) (by omega) (by omega) (by omega) hlt with ⟨y1, y2⟩ | ⟨q, y1, y2, y3, y4⟩
              · exact absurd z2 (y1 p z1)
              · have eq : q = p := by
                  rcases Nat.lt_trichotomy q p with w | w | w
                  · exact absurd y2 (z3 q w)
                  · exact w
                  · exact absurd z2 (y3 p w)
                subst eq
                have hqi : (nI q).toInt = (q : Int) := nI_toInt (by omega)
                have hki : (nI k).toInt = (k : Int) := nI_toInt (by omega)
                have hai : (nI a).toInt = (a : Int) := nI_toInt (by omega)
                have hei : (nI e).toInt = (e : Int) := nI_toInt (by omega)
                rw [z5 hlt, y4]
                refine ⟨sm.1 4, _, _, congrArg (fun z => some (z, _)) hT.1, rfl, hL, hB, hO, hH, hS, jt_add hT hlt (by omega) (by rw [nI_clamp (by omega)]; exact c4') (by omega) (by omega), hK, hC, hW, hP, hR, hU⟩
          · have n1 : ¬ nI s2 = -1 := by
              rw [fa_eq, nI_toInt (by omega)]
              show ¬ (s2 : Int) = -1
              omega
            rw [w5, hs.1 ⟨s2, w1, w2, w3⟩, Option.bind_some, Option.bind_some, if_neg n1, if10]
            exact ⟨-1, _, _, rfl, rfl, h⟩
      · rw [nts_f c6, mnt_f c6]
        exact ⟨-1, _, _, rfl, rfl, h⟩
  · rw [ib_f o6 c1, o1, has_f c1]
    exact ⟨-1, _, _, rfl, rfl, h⟩
