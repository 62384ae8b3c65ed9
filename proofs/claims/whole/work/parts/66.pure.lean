-- ===== bills =====
theorem bill_eq {x m : MS} (h : Inv x m) {s : Nat} (hs : (s : Int) < (m.1 4).toInt) : ∃ (v : Int32) (x' m' : MS), f_Hb_billOf (nI s) x = some (v, x') ∧ f_Md_bill (nI s) m = some (v, m') ∧ Inv x' m' ∧ m'.1 4 = m.1 4 := by
  obtain ⟨hL, hB, hO, hH, hS, hT, hK, hC, hW, hP, hR, hU⟩ := id h
  obtain ⟨u1, u2, u3, u4, u5⟩ := id hU
  obtain ⟨t1, t2, t3, t4, t5, t6, t7⟩ := id hT
  have u32 := u3.2
  have t62 := t6.2
  have o62 := hO.2.2.2.2.2.1.2
  obtain ⟨p1, p2, p3, p4, p5, p6, p7, p8⟩ := t7 s hs
  have hi : inb (nI s) 40 = true := ib_nI (by omega) (by omega)
  have hib : inb (m.2 10 s) 30 = true := inb_iff.mpr ⟨p1, by show _ < (30 : Int); omega⟩
  have hcu := cl_ti u3.1
  have hnu := cnt_nI u3.1
  obtain ⟨N, hN⟩ : ∃ N, N = (m.1 24).toNatClampNeg := ⟨_, rfl⟩
  rw [← hN] at hcu hnu
  have main := loop_two (f := fun z => Rules_inForce_l4 (m.2 12 s) x z.1 z.2) (g := fun z => Md_bill_l4 (nI s) m z.1 z.2)
    (fun k X Y => X = Y ∧ X.2 = nI k ∧ (X.1 = -1 ∨ ∃ r : Nat, r < N ∧ X.1 = nI r))
    (fun r q => ∃ x', f_Rules_reckon r (m.2 3 (m.2 10 s).toNatClampNeg) (m.2 13 s - m.2 12 s) (m.2 12 s) x = some (q.1, x') ∧ Inv x' q.2 ∧ q.2.1 4 = m.1 4) N (by
      rintro k ⟨a1, a2⟩ ⟨b1, b2⟩ hk ⟨g1, g2, g3⟩
      cases g1
      have g2 : a2 = nI k := g2
      have g3 : a1 = -1 ∨ ∃ r : Nat, r < N ∧ a1 = nI r := g3
      have hk8 : inb (nI k) 8 = true := ib_nI (by omega) (by omega)
      have n1 : ¬ nI N ≤ nI k := nI_ge hk (by omega)
      show ∃ s' t', Rules_inForce_l4 (m.2 12 s) x a1 a2 = some (.inl s') ∧ Md_bill_l4 (nI s) m a1 a2 = some (.inl t') ∧ _
      rw [g2]
      unfold Rules_inForce_l4 Md_bill_l4
      rw [u1, hnu, if_neg n1, if_neg n1]
      simp only [chk_t hk8, chk_t hi, bnd_eq, nI_clamp (show k < 2 ^ 31 by omega), nI_clamp (show s < 2 ^ 31 by omega), u2, nI_1]
      by_cases c : m.2 12 s < m.2 30 k
      · rw [if_pos c, if_pos c]
        exact ⟨_, _, rfl, rfl, rfl, rfl, g3⟩
      · rw [if_neg c, if_neg c]
        rcases g3 with e | ⟨r, r1, r2⟩
        · rw [if_pos e, if_pos (by rw [e]; exact m1_neg : a1 < 0)]
          exact ⟨_, _, rfl, rfl, rfl, rfl, Or.inr ⟨k, hk, rfl⟩⟩
        · have nr : ¬ a1 = -1 := fun q => by
            rw [r2, fa_eq, nI_toInt (by omega)] at q
            have q : (r : Int) = (-1 : Int) := q
            omega
          have nr2 : ¬ a1 < 0 := by rw [r2]; exact nI_pos (by omega)
          have hr8 : inb (nI r) 8 = true := ib_nI (by omega) (by omega)
          rw [if_neg nr, if_neg nr2, r2, chk_t hr8, chk_t hr8, nI_clamp (n := r) (by omega)]
          by_cases c2 : m.2 30 k < m.2 30 r
          · rw [if_pos c2, if_pos c2]
            exact ⟨_, _, rfl, rfl, rfl, rfl, Or.inr ⟨r, r1, rfl⟩⟩
          · rw [if_neg c2, if_neg c2]
            exact ⟨_, _, rfl, rfl, rfl, rfl, Or.inr ⟨k, hk, rfl⟩⟩) (by
      rintro ⟨a1, a2⟩ ⟨b1, b2⟩ ⟨g1, g2, g3⟩
      cases g1
      have g2 : a2 = nI N := g2
      have g3 : a1 = -1 ∨ ∃ r : Nat, r < N ∧ a1 = nI r := g3
      show ∃ r q, Rules_inForce_l4 (m.2 12 s) x a1 a2 = some (.inr r) ∧ Md_bill_l4 (nI s) m a1 a2 = some (.inr q) ∧ _
      rw [g2]
      unfold Rules_inForce_l4 Md_bill_l4
      rw [u1, hnu, if_pos (Int32.le_refl _), if_pos (Int32.le_refl _)]
      rcases g3 with e | ⟨r, r1, r2⟩
      · rw [if_neg (by rw [e]; decide : ¬ 0 ≤ a1), e]
        refine ⟨-1, (0, m), rfl, rfl, x, ?_, h, rfl⟩
        unfold f_Rules_reckon
        rw [if_pos m1_neg]
      · have nr : (0 : Int32) ≤ a1 := by rw [r2]; exact nI_pos' (by omega)
        obtain ⟨v, x', m', h1, h2, h3, h4⟩ := reckon_eq h (r := r) (by omega) (m.2 3 (m.2 10 s).toNatClampNeg) (m.2 13 s - m.2 12 s) (m.2 12 s)
        rw [if_pos nr, r2]
        simp only [chk_t hi, bnd_eq, nI_clamp (show s < 2 ^ 31 by omega), chk_t hib]
        rw [h2]
        exact ⟨nI r, (v, m'), rfl, rfl, x', h1, h3, h4⟩)
  obtain ⟨r, q, h1, h2, x', h3, h4, h5⟩ := main N 0 ((-1 : Int32), (0 : Int32)) ((-1 : Int32), (0 : Int32)) (by omega) ⟨rfl, nI_0.symm, Or.inl rfl⟩
  refine ⟨q.1, x', q.2, ?_, h2, h4, h5⟩
  unfold f_Hb_billOf f_Rules_inForce
  rw [chk_t hi, bnd_eq, chk_t hi, bnd_eq, bnd_eq, nI_clamp (n := s) (by omega), t4, t5, h1, Option.bind_some, chk_t hi, bnd_eq, t2, chk_t hib, bnd_eq, hO.2.1, h3]
  rfl
theorem st_stayOf : St_stayOf Inv := by
  intro a1 a2 sx sm h
  obtain ⟨hL, hB, hO, hH, hS, hT, hK, hC, hW, hP, hR, hU⟩ := id h
  obtain ⟨t1, t2, t3, t4, t5, t6, t7⟩ := id hT
  unfold f_Hb_stayOf f_Stays_has f_Md_stayOf
  by_cases c1 : 0 ≤ a1.toInt ∧ a1.toInt < (sm.1 4).toInt
  · have hi := inb_of t6 c1
    rw [inc_t t6 c1, t1, has_t c1, Option.bind_some, Option.bind_some, if10, if10, bnd_eq, bnd_eq, t2, t3, t4, t5]
    simp only [chk_t hi, bnd_eq]
    by_cases d0 : a2 = 0
    · rw [if_pos d0, if_pos d0]
      exact ⟨_, _, _, rfl, rfl, h⟩
    · rw [if_neg d0, if_neg d0]
      by_cases d1 : a2 = 1
      · rw [if_pos d1, if_pos d1]
        exact ⟨_, _, _, rfl, rfl, h⟩
      · rw [if_neg d1, if_neg d1]
        by_cases d2 : a2 = 2
        · rw [if_pos d2, if_pos d2]
          exact ⟨_, _, _, rfl, rfl, h⟩
        · rw [if_neg d2, if_neg d2]
          by_cases d3 : a2 = 3
          · rw [if_pos d3, if_pos d3]
            exact ⟨_, _, _, rfl, rfl, h⟩
          · rw [if_neg d3, if_neg d3]
            by_cases d4 : a2 = 4
            · rw [if_pos d4, if_pos d4]
              have e1 := cnt_nI c1.1
              have k1 := cl_ti c1.1
              obtain ⟨i1, f1⟩ : ∃ n, n = a1.toNatClampNeg := ⟨_, rfl⟩
              rw [← f1] at e1 k1
              obtain ⟨v, x', m', h1, h2, h3, h4⟩ := bill_eq h (s := i1) (by omega)
              rw [e1, h1, h2]
              exact ⟨v, x', m', rfl, rfl, h3⟩
            · rw [if_neg d4, if_neg d4]
              exact ⟨_, _, _, rfl, rfl, h⟩
  · rw [inc_f t6 c1, t1, has_f c1]
    exact ⟨-1, _, _, rfl, rfl, h⟩
theorem st_owes : St_owes Inv := by
  intro a1 sx sm h
  obtain ⟨hL, hB, hO, hH, hS, hT, hK, hC, hW, hP, hR, hU⟩ := id h
  obtain ⟨t1, t2, t3, t4, t5, t6, t7⟩ := id hT
  have t62 := t6.2
  have hcu := cl_ti t6.1
  have hnu := cnt_nI t6.1
  obtain ⟨N, hN⟩ : ∃ N, N = (sm.1 4).toNatClampNeg := ⟨_, rfl⟩
  rw [← hN] at hcu hnu
  unfold f_Hb_owes f_Md_owes
  have main := loop_two (f := fun z => Hb_owes_l4 a1 z.1 z.2.1 z.2.2) (g := fun z => Md_owes_l4 a1 z.1 z.2.1 z.2.2)
    (fun k X Y => X.1 = Y.1 ∧ X.2.1 = nI k ∧ Y.2.1 = nI k ∧ Inv X.2.2 Y.2.2 ∧ Y.2.2.1 4 = sm.1 4)
    (fun r q => r.1 = q.1 ∧ Inv r.2 q.2) N (by
      rintro k ⟨a, b, x⟩ ⟨c, d, m⟩ hk ⟨g1, g2, g3, g4, g5⟩
      have g1 : a = c := g1
      have g2 : b = nI k := g2
      have g3 : d = nI k := g3
      have g4 : Inv x m := g4
      have g5 : m.1 4 = sm.1 4 := g5
      subst g1 g2 g3
      have hT2 := g4.2.2.2.2.2.1
      have hO2 := g4.2.2.1.2.2.2.2.2.1
      have hks : (k : Int) < (m.1 4).toInt := by rw [g5]; omega
      obtain ⟨p1, p2, -⟩ := hT2.2.2.2.2.2.2 k hks
      have hi : inb (nI k) 40 = true := ib_nI (by omega) (by omega)
      have n1 : ¬ nI N ≤ nI k := nI_ge hk (by omega)
      show ∃ s' t', Hb_owes_l4 a1 a (nI k) x = some (.inl s') ∧ Md_owes_l4 a1 a (nI k) m = some (.inl t') ∧ _
      unfold Hb_owes_l4 Md_owes_l4
      rw [hT2.1, g5, hnu, if_neg n1, if_neg n1, chk_t hi, bnd_eq, nI_clamp (n := k) (by omega), hT2.2.1]
      by_cases e : m.2 10 k = a1
      · obtain ⟨v, x', m', h1, h2, h3, h4⟩ := bill_eq g4 (s := k) hks
        rw [ib_t hO2 (by rw [← e]; exact ⟨p1, p2⟩), Option.bind_some, if10, if_pos e, chk_t hi, bnd_eq, if_pos e, h1, h2, bd2_some, bd2_some, bnd_eq, bnd_eq, bnd_eq, bnd_eq, nI_1]
        exact ⟨_, _, rfl, rfl, rfl, rfl, rfl, h3, h4.trans (g5.trans hnu)⟩
      · rw [if_neg e, bnd_eq, nI_1]
        have e0 : a + 0 = a := Int32.add_zero a
        by_cases cb : 0 ≤ a1.toInt ∧ a1.toInt < (m.1 2).toInt
        · rw [ib_t hO2 cb, Option.bind_some, if10, chk_t hi, bnd_eq, if_neg e, bnd_eq, bnd_eq, e0]
          exact ⟨_, _, rfl, rfl, rfl, rfl, rfl, g4, g5.trans hnu⟩
        · rw [ib_f hO2 cb, Option.bind_some, if00, bnd_eq, bnd_eq, e0]
          exact ⟨_, _, rfl, rfl, rfl, rfl, rfl, g4, g5.trans hnu⟩) (by
      rintro ⟨a, b, x⟩ ⟨c, d, m⟩ ⟨g1, g2, g3, g4, g5⟩
      have g1 : a = c := g1
      have g2 : b = nI N := g2
      have g3 : d = nI N := g3
      have g4 : Inv x m := g4
      have g5 : m.1 4 = sm.1 4 := g5
      subst g1 g2 g3
      show ∃ r q, Hb_owes_l4 a1 a (nI N) x = some (.inr r) ∧ Md_owes_l4 a1 a (nI N) m = some (.inr q) ∧ _
      unfold Hb_owes_l4 Md_owes_l4
      rw [g4.2.2.2.2.2.1.1, g5, hnu, if_pos (Int32.le_refl _), if_pos (Int32.le_refl _)]
      exact ⟨_, _, rfl, rfl, rfl, g4⟩)
  obtain ⟨r, q, h1, h2, h3, h4⟩ := main N 0 ((0 : Int32), (0 : Int32), sx) ((0 : Int32), (0 : Int32), sm) (by omega) ⟨rfl, nI_0.symm, nI_0.symm, h, rfl⟩
  exact ⟨r.1, r.2, q.2, h1, by rw [h2, h3], h4⟩
