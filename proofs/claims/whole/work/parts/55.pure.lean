theorem night_says {x m : MS} (hT : JT x m) {s d : Nat} (hs : (s : Int) < (m.1 4).toInt) (hd : d < 2 ^ 31) : Says (f_Md_isNight (nI s) (nI d) m) (Ov m s d (d + 1)) := by
  have t62 : (m.1 4).toInt ≤ 40 := hT.2.2.2.2.2.1.2
  have hi : inb (nI s) 40 = true := inb_iff.mpr ⟨by rw [nI_toInt (by omega)]; omega, by rw [nI_toInt (by omega)]; show _ < (40 : Int); omega⟩
  have hdi : (nI d).toInt = (d : Int) := nI_toInt hd
  unfold f_Md_isNight Ov
  rw [chk_t hi, bnd_eq, chk_t hi, bnd_eq, nI_clamp (by omega)]
  refine ⟨fun ⟨h1, h2⟩ => ?_, fun h => ?_⟩
  · have n1 : ¬ nI d < m.2 12 s := by rw [fa_lt, hdi]; omega
    have n2 : ¬ m.2 13 s ≤ nI d := by rw [fa_le, hdi]; omega
    rw [if_neg n1, if_neg n2]
  · by_cases n1 : nI d < m.2 12 s
    · rw [if_pos n1]
    · have n2 : m.2 13 s ≤ nI d := by rw [fa_le, hdi]; rw [fa_lt, hdi] at n1; omega
      rw [if_neg n1, if_pos n2]
/-- the reference's boat at a berth on a night -/
theorem at_eq {x m : MS} (hO : JO x m) (hS : JS x m) (hT : JT x m) {p d : Nat} (hp : p < 2 ^ 31) (hd : d < 2 ^ 31) :
    (∃ k : Nat, (k : Int) < (m.1 2).toInt ∧ (m.2 6 k).toInt = (p : Int) ∧ ¬ Aw m (nI k) d ∧ f_Md_at (nI p) (nI d) m = some (nI k)) ∨
    ((∀ k : Nat, (k : Int) < (m.1 2).toInt → ¬ ((m.2 6 k).toInt = (p : Int) ∧ ¬ Aw m (nI k) d)) ∧
      (((∀ s : Nat, (s : Int) < (m.1 4).toInt → ¬ (m.2 11 s = nI p ∧ Ov m s d (d + 1))) ∧ f_Md_at (nI p) (nI d) m = some (-1)) ∨
       ∃ s : Nat, (s : Int) < (m.1 4).toInt ∧ m.2 11 s = nI p ∧ Ov m s d (d + 1) ∧ (∀ j : Nat, j < s → ¬ (m.2 11 j = nI p ∧ Ov m j d (d + 1))) ∧ f_Md_at (nI p) (nI d) m = some (m.2 10 s))) := by
  have o62 : (m.1 2).toInt ≤ 30 := hO.2.2.2.2.2.1.2
  unfold f_Md_at
  rcases atHome_eq hO hS hp hd with ⟨h1, h2⟩ | ⟨k, h1, h2, h3, h4⟩
  · right
    refine ⟨h1, ?_⟩
    rw [h2, Option.bind_some, if_pos (by decide)]
    obtain ⟨t1, t2, t3, t4, t5, t6, t7⟩ := id hT
    have t62 := t6.2
    have hc := cl_ti t6.1
    have hn : m.1 4 = nI (m.1 4).toNatClampNeg := cnt_nI t6.1
    obtain ⟨n, hnn⟩ : ∃ n, n = (m.1 4).toNatClampNeg := ⟨_, rfl⟩
    rw [← hnn] at hc hn
    have key : ∀ k : Nat, k < n → ¬ m.1 4 ≤ nI k ∧ inb (nI k) 40 = true ∧ (nI k).toNatClampNeg = k := fun k hk => ⟨by rw [hn]; exact nI_ge hk (by omega), inb_iff.mpr ⟨by rw [nI_toInt (by omega)]; omega, by rw [nI_toInt (by omega)]; show _ < (40 : Int); omega⟩, nI_clamp (by omega)⟩
    have hl := loop_first (f := fun z => Md_at_l16 (nI p) (nI d) m z) (fun s => m.2 11 s = nI p ∧ Ov m s d (d + 1)) (fun s => m.2 10 s) (-1) n (by
        show Md_at_l16 (nI p) (nI d) m (nI n) = _
        unfold Md_at_l16
        rw [if_pos (by rw [hn]; exact Int32.le_refl _)]
        rfl) n 0 (by omega) (fun k _ hk c => by
        show Md_at_l16 (nI p) (nI d) m (nI k) = _
        obtain ⟨k1, k2, k3⟩ := key k hk
        unfold Md_at_l16
        rw [if_neg k1, chk_t k2, bnd_eq, k3]
        by_cases c1 : m.2 11 k = nI p
        · rw [if_pos c1, (night_says hT (by omega) hd).2 (fun q => c ⟨c1, q⟩), Option.bind_some, if00, bnd_eq, nI_1]
        · rw [if_neg c1, bnd_eq, nI_1]) (fun k _ hk c => by
        show Md_at_l16 (nI p) (nI d) m (nI k) = _
        obtain ⟨k1, k2, k3⟩ := key k hk
        unfold Md_at_l16
        rw [if_neg k1, chk_t k2, bnd_eq, k3, if_pos c.1, (night_says hT (by omega) hd).1 c.2, Option.bind_some, if10, chk_t k2, bnd_eq]
        rfl)
    rw [nI_0] at hl
    rcases hl with ⟨g1, g2⟩ | ⟨s, g1, g2, g3, g4, g5⟩
    · exact Or.inl ⟨fun s hs => g1 s (Nat.zero_le s) (by omega), g2⟩
    · exact Or.inr ⟨s, by omega, g3.1, g3.2, fun j hj => g4 j (Nat.zero_le j) hj, g5⟩
  · left
    refine ⟨k, h1, h2, h3, ?_⟩
    have n1 : ¬ nI k < 0 := nI_pos (by omega)
    rw [h4, Option.bind_some, if_neg n1]
theorem st_lies : St_lies Inv := by
  intro a1 a2 sx sm h
  obtain ⟨hL, hB, hO, hH, hS, hT, hK, hC, hW, hP, hR, hU⟩ := id h
  have b4 := hB.2.2.2.1
  have b42 : (sm.1 1).toInt ≤ 10 := b4.2
  have t62 : (sm.1 4).toInt ≤ 40 := hT.2.2.2.2.2.1.2
  unfold f_Hb_lies f_Berths_has f_Md_lies
  by_cases c1 : 0 ≤ a1.toInt ∧ a1.toInt < (sm.1 1).toInt
  · rw [inc_t b4 c1, hB.1, has_t c1, Option.bind_some, Option.bind_some, if10, if10]
    by_cases c2 : 0 ≤ a2.toInt ∧ a2.toInt ≤ 399
    · rw [day_t c2, in_t (lo := 0) (hi := 399) c2, Option.bind_some, Option.bind_some, if10, if10]
      have hi := inb_of b4 c1
      have e1 := cnt_nI c1.1
      have e2 := cnt_nI c2.1
      have k1 := cl_ti c1.1
      have k2 := cl_ti c2.1
      obtain ⟨p, f1⟩ : ∃ n, n = a1.toNatClampNeg := ⟨_, rfl⟩
      obtain ⟨d, f2⟩ : ∃ n, n = a2.toNatClampNeg := ⟨_, rfl⟩
      rw [← f1] at e1 k1
      rw [← f2] at e2 k2
      have ho := owner_says h (p := p) (a := d) (e := d + 1) (by omega) (by omega) (by omega)
      rw [chk_t hi, bnd_eq, ← f1, e1, e2, nI_1]
      rcases at_eq hO hS hT (p := p) (d := d) (by omega) (by omega) with ⟨k, q1, q2, q3, q4⟩ | ⟨q1, q2⟩
      · rw [ho.1 ⟨k, q1, q2, d, Nat.le_refl d, by omega, q3⟩, q4, Option.bind_some, if10, Option.bind_some]
        refine ⟨nI k, ?_, rfl, h⟩
        rcases hH p (by omega) with ⟨z1, z2⟩ | ⟨j, z1, z2, z3, z4⟩
        · exact absurd q2 (z2 k q1)
        · rw [z2, z4 k q1 q2]
      · rw [ho.2 (fun ⟨k, z1, z2, d2, z3, z4, z5⟩ => q1 k z1 ⟨z2, by rw [show d = d2 by omega]; exact z5⟩), Option.bind_some, if00]
        rcases q2 with ⟨g1, g2⟩ | ⟨s, g1, g2, g3, g4, g5⟩
        · rcases atBerth_eq hT (nI p) (a := d) (e := d + 1) (by omega) (by omega) with ⟨w1, w2⟩ | ⟨s2, w1, w2, w3, w4, w5⟩
          · rw [w2, g2]
            exact ⟨-1, rfl, rfl, h⟩
          · exact absurd ⟨w2, w3⟩ (g1 s2 w1)
        · rcases atBerth_eq hT (nI p) (a := d) (e := d + 1) (by omega) (by omega) with ⟨w1, w2⟩ | ⟨s2, w1, w2, w3, w4, w5⟩
          · exact absurd ⟨g2, g3⟩ (w1 s g1)
          · have es : s2 = s := by
              rcases Nat.lt_trichotomy s2 s with z | z | z
              · exact absurd ⟨w2, w3⟩ (g4 s2 z)
              · exact z
              · exact absurd ⟨g2, g3⟩ (w4 s z)
            subst es
            have n1 : ¬ nI s2 = -1 := by
              rw [fa_eq, nI_toInt (by omega)]
              show ¬ (s2 : Int) = -1
              omega
            have hi2 : inb (nI s2) 40 = true := inb_iff.mpr ⟨by rw [nI_toInt (by omega)]; omega, by rw [nI_toInt (by omega)]; show _ < (40 : Int); omega⟩
            rw [w5, g5, Option.bind_some, if_neg n1, chk_t hi2, bnd_eq, nI_clamp (by omega), hT.2.1]
            exact ⟨_, rfl, rfl, h⟩
    · rw [day_f c2, in_f (lo := 0) (hi := 399) c2]
      exact ⟨-1, rfl, rfl, h⟩
  · rw [inc_f b4 c1, hB.1, has_f c1]
    exact ⟨-1, rfl, rfl, h⟩
