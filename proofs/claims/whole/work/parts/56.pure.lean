theorem find_eq {x m : MS} (hS : JS x m) (b : Int32) {d : Nat} (hd : d < 2 ^ 31) : (¬ Aw m b d ∧ f_Spans_find b (nI d) x = some (-1)) ∨ (Aw m b d ∧ ∃ k : Nat, (k : Int) < (m.1 3).toInt ∧ cov x b k d = true ∧ f_Spans_find b (nI d) x = some (nI k)) := by
  obtain ⟨s1, s2, -⟩ := id hS
  have s22 := s2.2
  have hc := cl_ti s2.1
  have hn : m.1 3 = nI (m.1 3).toNatClampNeg := cnt_nI s2.1
  have hdi : (nI d).toInt = (d : Int) := nI_toInt hd
  have haw := Aw_iff hS b d
  obtain ⟨n, hnn⟩ : ∃ n, n = (m.1 3).toNatClampNeg := ⟨_, rfl⟩
  rw [← hnn] at hc hn haw
  have key : ∀ k : Nat, k < n → ¬ x.1 4 ≤ nI k ∧ inb (nI k) 60 = true ∧ (nI k).toNatClampNeg = k := fun k hk => ⟨by rw [s1, hn]; exact nI_ge hk (by omega), inb_iff.mpr ⟨by rw [nI_toInt (by omega)]; omega, by rw [nI_toInt (by omega)]; show _ < (60 : Int); omega⟩, nI_clamp (by omega)⟩
  have hl := loop_first (f := fun z => Spans_find_l2 b (nI d) x z) (fun k => cov x b k d = true) (fun k => nI k) (-1) n (by
      show Spans_find_l2 b (nI d) x (nI n) = _
      unfold Spans_find_l2
      rw [if_pos (by rw [s1, hn]; exact Int32.le_refl _)]
      rfl) n 0 (by omega) (fun k _ hk c => by
      show Spans_find_l2 b (nI d) x (nI k) = _
      obtain ⟨k1, k2, k3⟩ := key k hk
      rw [cov_iff] at c
      unfold Spans_find_l2
      simp only [if_neg k1, chk_t k2, bnd_eq, k3, nI_1]
      by_cases c1 : x.2 11 k = b
      · rw [if_pos c1]
        by_cases c2 : nI d < x.2 12 k
        · rw [if_pos c2]
        · rw [if_neg c2]
          have c3 : x.2 13 k ≤ nI d := by
            rw [fa_lt, hdi] at c2
            rw [fa_le, hdi]
            exact Classical.byContradiction fun q => c ⟨c1, by omega, by omega⟩
          rw [if_pos c3]
      · rw [if_neg c1]) (fun k _ hk c => by
      show Spans_find_l2 b (nI d) x (nI k) = _
      obtain ⟨k1, k2, k3⟩ := key k hk
      obtain ⟨c1, c2, c3⟩ := cov_iff.mp c
      have d2 : ¬ nI d < x.2 12 k := by rw [fa_lt, hdi]; omega
      have d3 : ¬ x.2 13 k ≤ nI d := by rw [fa_le, hdi]; omega
      unfold Spans_find_l2
      simp only [if_neg k1, chk_t k2, bnd_eq, k3, nI_1]
      rw [if_pos c1, if_neg d2, if_neg d3]
      rfl)
  rw [nI_0] at hl
  rcases hl with ⟨h1, h2⟩ | ⟨k, h1, h2, h3, h4, h5⟩
  · refine Or.inl ⟨fun q => ?_, h2⟩
    obtain ⟨i, i1, i2⟩ := cv_iff.mp (haw.mp q)
    exact h1 i (Nat.zero_le i) i1 i2
  · exact Or.inr ⟨haw.mpr (cv_iff.mpr ⟨k, h2, h3⟩), k, by omega, h3, h5⟩
theorem boatStay_eq {x m : MS} (hT : JT x m) (b : Int32) {d : Nat} (hd : d < 2 ^ 31) : ((∀ s : Nat, (s : Int) < (m.1 4).toInt → ¬ (m.2 10 s = b ∧ Ov m s d (d + 1))) ∧ loop (fun z => Md_boatOf_l59 b (nI d) m z) (0 : Int32) = some (-1)) ∨ ∃ s : Nat, (s : Int) < (m.1 4).toInt ∧ m.2 10 s = b ∧ Ov m s d (d + 1) ∧ (∀ j : Nat, j < s → ¬ (m.2 10 j = b ∧ Ov m j d (d + 1))) ∧ loop (fun z => Md_boatOf_l59 b (nI d) m z) (0 : Int32) = some (m.2 11 s) := by
  obtain ⟨t1, t2, t3, t4, t5, t6, t7⟩ := id hT
  have t62 := t6.2
  have hc := cl_ti t6.1
  have hn : m.1 4 = nI (m.1 4).toNatClampNeg := cnt_nI t6.1
  obtain ⟨n, hnn⟩ : ∃ n, n = (m.1 4).toNatClampNeg := ⟨_, rfl⟩
  rw [← hnn] at hc hn
  have key : ∀ k : Nat, k < n → ¬ m.1 4 ≤ nI k ∧ inb (nI k) 40 = true ∧ (nI k).toNatClampNeg = k := fun k hk => ⟨by rw [hn]; exact nI_ge hk (by omega), inb_iff.mpr ⟨by rw [nI_toInt (by omega)]; omega, by rw [nI_toInt (by omega)]; show _ < (40 : Int); omega⟩, nI_clamp (by omega)⟩
  have hl := loop_first (f := fun z => Md_boatOf_l59 b (nI d) m z) (fun s => m.2 10 s = b ∧ Ov m s d (d + 1)) (fun s => m.2 11 s) (-1) n (by
      show Md_boatOf_l59 b (nI d) m (nI n) = _
      unfold Md_boatOf_l59
      rw [if_pos (by rw [hn]; exact Int32.le_refl _)]
      rfl) n 0 (by omega) (fun k _ hk c => by
      show Md_boatOf_l59 b (nI d) m (nI k) = _
      obtain ⟨k1, k2, k3⟩ := key k hk
      unfold Md_boatOf_l59
      rw [if_neg k1, chk_t k2, bnd_eq, k3]
      by_cases c1 : m.2 10 k = b
      · rw [if_pos c1, (night_says hT (by omega) hd).2 (fun q => c ⟨c1, q⟩), Option.bind_some, if00, bnd_eq, nI_1]
      · rw [if_neg c1, bnd_eq, nI_1]) (fun k _ hk c => by
      show Md_boatOf_l59 b (nI d) m (nI k) = _
      obtain ⟨k1, k2, k3⟩ := key k hk
      unfold Md_boatOf_l59
      rw [if_neg k1, chk_t k2, bnd_eq, k3, if_pos c.1, (night_says hT (by omega) hd).1 c.2, Option.bind_some, if10, chk_t k2, bnd_eq]
      rfl)
  rw [nI_0] at hl
  rcases hl with ⟨g1, g2⟩ | ⟨s, g1, g2, g3, g4, g5⟩
  · exact Or.inl ⟨fun s hs => g1 s (Nat.zero_le s) (by omega), g2⟩
  · exact Or.inr ⟨s, by omega, g3.1, g3.2, fun j hj => g4 j (Nat.zero_le j) hj, g5⟩
theorem st_boatOf : St_boatOf Inv := by
  intro a1 a2 sx sm h
  obtain ⟨hL, hB, hO, hH, hS, hT, hK, hC, hW, hP, hR, hU⟩ := id h
  obtain ⟨o1, o2, o3, o4, o5, o6, o7⟩ := id hO
  have t62 : (sm.1 4).toInt ≤ 40 := hT.2.2.2.2.2.1.2
  unfold f_Hb_boatOf f_Boats_has f_Md_boatOf
  by_cases c1 : 0 ≤ a1.toInt ∧ a1.toInt < (sm.1 2).toInt
  · rw [ib_t o6 c1, o1, has_t c1, Option.bind_some, Option.bind_some, if10, if10, bnd_eq]
    have hi := inb_of o6 c1
    by_cases c2 : (100 : Int32).toInt ≤ a2.toInt ∧ a2.toInt ≤ (499 : Int32).toInt
    · have c2' : 100 ≤ a2.toInt ∧ a2.toInt ≤ 499 := c2
      have m0 : ¬ a2 = 0 := by rw [fa_eq]; show ¬ a2.toInt = 0; omega
      have m1 : ¬ a2 = 1 := by rw [fa_eq]; show ¬ a2.toInt = 1; omega
      have m2 : ¬ a2 = 2 := by rw [fa_eq]; show ¬ a2.toInt = 2; omega
      have m3 : ¬ a2 = 3 := by rw [fa_eq]; show ¬ a2.toInt = 3; omega
      have m4 : (100 : Int32) ≤ a2 := by rw [fa_le]; exact c2.1
      have hsub : (a2 - (100 : Int32)).toInt = a2.toInt - 100 := fb_subI (by show _ ≤ _ - (100 : Int); omega) (by show _ - (100 : Int) < _; omega)
      rw [in_t c2, Option.bind_some, if10, bnd_eq, if_neg m0, if_neg m1, if_neg m2, if_neg m3, if_pos m4]
      obtain ⟨w, hw⟩ : ∃ w, w = a2 - (100 : Int32) := ⟨_, rfl⟩
      rw [← hw] at hsub ⊢
      have c3 : 0 ≤ w.toInt ∧ w.toInt ≤ 399 := by omega
      have e1 := cnt_nI c1.1
      have e3 := cnt_nI c3.1
      have k1 := cl_ti c1.1
      have k3 := cl_ti c3.1
      obtain ⟨k, f1⟩ : ∃ n, n = a1.toNatClampNeg := ⟨_, rfl⟩
      obtain ⟨d, f3⟩ : ∃ n, n = w.toNatClampNeg := ⟨_, rfl⟩
      rw [← f1] at e1 k1
      rw [← f3] at e3 k3
      unfold f_Hb_berthOf
      rw [day_t c3, Option.bind_some, if10]
      simp only [chk_t hi, bnd_eq, o5, ← f1]
      have r := o7 k (by omega)
      by_cases c4 : sm.2 6 k < 0
      · have c5 : sm.2 6 k = -1 := by
          rw [fa_lt] at c4
          have c4 : (sm.2 6 k).toInt < 0 := c4
          rw [fa_eq]
          show (sm.2 6 k).toInt = -1
          omega
        rw [if_pos c4, if_pos c5, e3, nI_1]
        rcases boatStay_eq hT a1 (d := d) (by omega) with ⟨g1, g2⟩ | ⟨s, g1, g2, g3, g4, g5⟩
        · rcases ofBoat_eq hT a1 (a := d) (e := d + 1) (by omega) (by omega) with ⟨w1, w2⟩ | ⟨s2, w1, w2, w3, w4, w5⟩
          · rw [w2, g2]
            exact ⟨-1, rfl, rfl, h⟩
          · exact absurd ⟨w2, w3⟩ (g1 s2 w1)
        · rcases ofBoat_eq hT a1 (a := d) (e := d + 1) (by omega) (by omega) with ⟨w1, w2⟩ | ⟨s2, w1, w2, w3, w4, w5⟩
          · exact absurd ⟨g2, g3⟩ (w1 s g1)
          · have es : s2 = s := by
              rcases Nat.lt_trichotomy s2 s with z | z | z
              · exact absurd ⟨w2, w3⟩ (g4 s2 z)
              · exact z
              · exact absurd ⟨g2, g3⟩ (w4 s z)
            subst es
            have n1 : ¬ nI s2 = -1 := by
              rw [fa_eq, nI_toInt (by omega)]
              show ¬ (s2 : Int) = -1
              omega
            have hi2 : inb (nI s2) 40 = true := inb_iff.mpr ⟨by rw [nI_toInt (by omega)]; omega, by rw [nI_toInt (by omega)]; show _ < (40 : Int); omega⟩
            rw [w5, g5, Option.bind_some, if_neg n1, chk_t hi2, nI_clamp (by omega), hT.2.2.1]
            exact ⟨_, rfl, rfl, h⟩
      · have c5 : ¬ sm.2 6 k = -1 := by
          rw [fa_lt] at c4
          have c4 : ¬ (sm.2 6 k).toInt < 0 := c4
          rw [fa_eq]
          show ¬ (sm.2 6 k).toInt = -1
          omega
        rw [if_neg c4, if_neg c5, e3]
        rcases find_eq hS a1 (d := d) (by omega) with ⟨z1, z2⟩ | ⟨z1, j, z2, z3, z4⟩
        · rw [z2, (isAway_says hS a1 (by omega)).2 z1]
          exact ⟨_, rfl, rfl, h⟩
        · have s22 : (sm.1 3).toInt ≤ 60 := hS.2.1.2
          have n1 : ¬ nI j = -1 := by
            rw [fa_eq, nI_toInt (by omega)]
            show ¬ (j : Int) = -1
            omega
          rw [z4, (isAway_says hS a1 (by omega)).1 z1, Option.bind_some, if_neg n1]
          exact ⟨-1, rfl, rfl, h⟩
    · rw [in_f c2, Option.bind_some, if00]
      simp only [chk_t hi, bnd_eq, o2, o3, o4, o5]
      by_cases d0 : a2 = 0
      · subst d0
        exact ⟨_, rfl, rfl, h⟩
      · by_cases d1 : a2 = 1
        · subst d1
          exact ⟨_, rfl, rfl, h⟩
        · by_cases d2 : a2 = 2
          · subst d2
            exact ⟨_, rfl, rfl, h⟩
          · by_cases d3 : a2 = 3
            · subst d3
              exact ⟨_, rfl, rfl, h⟩
            · rw [if_neg d0, if_neg d1, if_neg d2, if_neg d3, if_neg d0, if_neg d1, if_neg d2, if_neg d3]
              by_cases m4 : (100 : Int32) ≤ a2
              · rw [if_pos m4]
                have m5 : (100 : Int) ≤ a2.toInt := (fa_le _ _).mp m4
                have c2' : ¬ ((100 : Int) ≤ a2.toInt ∧ a2.toInt ≤ 499) := c2
                have hr := fb_rng a2
                have hsub : (a2 - (100 : Int32)).toInt = a2.toInt - 100 := fb_subI (by show _ ≤ _ - (100 : Int); omega) (by show _ - (100 : Int) < _; omega)
                unfold f_Hb_berthOf
                rw [day_f (by rw [hsub]; omega)]
                exact ⟨-1, rfl, rfl, h⟩
              · rw [if_neg m4]
                exact ⟨-1, rfl, rfl, h⟩
  · rw [ib_f o6 c1, o1, has_f c1]
    exact ⟨-1, rfl, rfl, h⟩
