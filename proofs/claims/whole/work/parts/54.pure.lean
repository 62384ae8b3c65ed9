-- ===== who lies where =====
/-- the class's answer whether a berth's owner is there on a night of a .. e - 1; the reference's boat at home -/
theorem owner_says {x m : MS} (h : Inv x m) {p a e : Nat} (hp : (p : Int) < (m.1 1).toInt) (hae : a < e) (he : e ≤ 400) : Says (f_Hb_isOwnerThere (nI p) (nI a) (nI e) x) (∃ k : Nat, (k : Int) < (m.1 2).toInt ∧ (m.2 6 k).toInt = (p : Int) ∧ ∃ d, a ≤ d ∧ d < e ∧ ¬ Aw m (nI k) d) := by
  obtain ⟨hL, hB, hO, hH, hS, hT, hK, hC, hW, hP, hR, hU⟩ := h
  have b42 := hB.2.2.2.1.2
  have o62 : (m.1 2).toInt ≤ 30 := hO.2.2.2.2.2.1.2
  have hi : inb (nI p) 10 = true := inb_iff.mpr ⟨by rw [nI_toInt (by omega)]; omega, by rw [nI_toInt (by omega)]; show _ < (10 : Int); omega⟩
  unfold f_Hb_isOwnerThere
  rw [chk_t hi, bnd_eq, nI_clamp (by omega)]
  rcases hH p hp with ⟨h1, h2⟩ | ⟨k, h1, h2, h3, h4⟩
  · rw [if_pos h1]
    exact ⟨fun ⟨k, q1, q2, _⟩ => absurd q2 (h2 k q1), fun _ => rfl⟩
  · have hne : ¬ x.2 6 p = -1 := by
      rw [h2, fa_eq, nI_toInt (by omega)]
      show ¬ (k : Int) = -1
      omega
    obtain ⟨v, v1, v2, v3⟩ := nights_none hS (nI k) (Nat.le_of_lt hae) he
    rw [if_neg hne, h2, v1, Option.bind_some]
    refine ⟨fun ⟨j, q1, q2, d, q3, q4, q5⟩ => ?_, fun q => ?_⟩
    · have ej := h4 j q1 q2
      subst ej
      have n1 : ¬ nI e - nI a ≤ v := fun z => q5 (v3.mp z d q3 q4)
      rw [if_neg n1]
    · have n1 : nI e - nI a ≤ v := v3.mpr (fun d d1 d2 => Classical.byContradiction fun z => q ⟨k, h1, h3, d, d1, d2, z⟩)
      rw [if_pos n1]
/-- a stay has a night of a .. e - 1 -/
def Ov (m : MS) (s : Nat) (a e : Nat) : Prop := (m.2 12 s).toInt < (e : Int) ∧ (a : Int) < (m.2 13 s).toInt
theorem atBerth_eq {x m : MS} (hT : JT x m) (b : Int32) {a e : Nat} (ha : a < 2 ^ 31) (he : e < 2 ^ 31) : ((∀ s : Nat, (s : Int) < (m.1 4).toInt → ¬ (m.2 11 s = b ∧ Ov m s a e)) ∧ f_Stays_atBerth b (nI a) (nI e) x = some (-1)) ∨ ∃ s : Nat, (s : Int) < (m.1 4).toInt ∧ m.2 11 s = b ∧ Ov m s a e ∧ (∀ j : Nat, j < s → ¬ (m.2 11 j = b ∧ Ov m j a e)) ∧ f_Stays_atBerth b (nI a) (nI e) x = some (nI s) := by
  obtain ⟨t1, t2, t3, t4, t5, t6, t7⟩ := hT
  have t62 := t6.2
  have hc := cl_ti t6.1
  have hn : m.1 4 = nI (m.1 4).toNatClampNeg := cnt_nI t6.1
  obtain ⟨n, hnn⟩ : ∃ n, n = (m.1 4).toNatClampNeg := ⟨_, rfl⟩
  rw [← hnn] at hc hn
  have hai : (nI a).toInt = (a : Int) := nI_toInt ha
  have hei : (nI e).toInt = (e : Int) := nI_toInt he
  have key : ∀ k : Nat, k < n → ¬ x.1 5 ≤ nI k ∧ inb (nI k) 40 = true ∧ (nI k).toNatClampNeg = k := fun k hk => ⟨by rw [t1, hn]; exact nI_ge hk (by omega), inb_iff.mpr ⟨by rw [nI_toInt (by omega)]; omega, by rw [nI_toInt (by omega)]; show _ < (40 : Int); omega⟩, nI_clamp (by omega)⟩
  have hl := loop_first (f := fun z => Stays_atBerth_l3 b (nI a) (nI e) x z) (fun s => m.2 11 s = b ∧ Ov m s a e) (fun s => nI s) (-1) n (by
      show Stays_atBerth_l3 b (nI a) (nI e) x (nI n) = _
      unfold Stays_atBerth_l3
      rw [if_pos (by rw [t1, hn]; exact Int32.le_refl _)]
      rfl) n 0 (by omega) (fun k _ hk c => by
      show Stays_atBerth_l3 b (nI a) (nI e) x (nI k) = _
      obtain ⟨k1, k2, k3⟩ := key k hk
      unfold Stays_atBerth_l3
      simp only [if_neg k1, chk_t k2, bnd_eq, k3, nI_1, t3, t4, t5]
      by_cases c1 : m.2 11 k = b
      · rw [if_pos c1]
        by_cases c2 : nI e ≤ m.2 12 k
        · rw [if_pos c2]
        · rw [if_neg c2]
          have c3 : m.2 13 k ≤ nI a := by
            rw [fa_le, hei] at c2
            rw [fa_le, hai]
            exact Classical.byContradiction fun q => c ⟨c1, by omega, by omega⟩
          rw [if_pos c3]
      · rw [if_neg c1]) (fun k _ hk c => by
      show Stays_atBerth_l3 b (nI a) (nI e) x (nI k) = _
      obtain ⟨k1, k2, k3⟩ := key k hk
      obtain ⟨c1, c2, c3⟩ := c
      have d2 : ¬ nI e ≤ m.2 12 k := by rw [fa_le, hei]; omega
      have d3 : ¬ m.2 13 k ≤ nI a := by rw [fa_le, hai]; omega
      unfold Stays_atBerth_l3
      simp only [if_neg k1, chk_t k2, bnd_eq, k3, nI_1, t3, t4, t5]
      rw [if_pos c1, if_neg d2, if_neg d3]
      rfl)
  rw [nI_0] at hl
  rcases hl with ⟨h1, h2⟩ | ⟨s, h1, h2, h3, h4, h5⟩
  · exact Or.inl ⟨fun s hs => h1 s (Nat.zero_le s) (by omega), h2⟩
  · exact Or.inr ⟨s, by omega, h3.1, h3.2, fun j hj => h4 j (Nat.zero_le j) hj, h5⟩
theorem ofBoat_eq {x m : MS} (hT : JT x m) (b : Int32) {a e : Nat} (ha : a < 2 ^ 31) (he : e < 2 ^ 31) : ((∀ s : Nat, (s : Int) < (m.1 4).toInt → ¬ (m.2 10 s = b ∧ Ov m s a e)) ∧ f_Stays_ofBoat b (nI a) (nI e) x = some (-1)) ∨ ∃ s : Nat, (s : Int) < (m.1 4).toInt ∧ m.2 10 s = b ∧ Ov m s a e ∧ (∀ j : Nat, j < s → ¬ (m.2 10 j = b ∧ Ov m j a e)) ∧ f_Stays_ofBoat b (nI a) (nI e) x = some (nI s) := by
  obtain ⟨t1, t2, t3, t4, t5, t6, t7⟩ := hT
  have t62 := t6.2
  have hc := cl_ti t6.1
  have hn : m.1 4 = nI (m.1 4).toNatClampNeg := cnt_nI t6.1
  obtain ⟨n, hnn⟩ : ∃ n, n = (m.1 4).toNatClampNeg := ⟨_, rfl⟩
  rw [← hnn] at hc hn
  have hai : (nI a).toInt = (a : Int) := nI_toInt ha
  have hei : (nI e).toInt = (e : Int) := nI_toInt he
  have key : ∀ k : Nat, k < n → ¬ x.1 5 ≤ nI k ∧ inb (nI k) 40 = true ∧ (nI k).toNatClampNeg = k := fun k hk => ⟨by rw [t1, hn]; exact nI_ge hk (by omega), inb_iff.mpr ⟨by rw [nI_toInt (by omega)]; omega, by rw [nI_toInt (by omega)]; show _ < (40 : Int); omega⟩, nI_clamp (by omega)⟩
  have hl := loop_first (f := fun z => Stays_ofBoat_l3 b (nI a) (nI e) x z) (fun s => m.2 10 s = b ∧ Ov m s a e) (fun s => nI s) (-1) n (by
      show Stays_ofBoat_l3 b (nI a) (nI e) x (nI n) = _
      unfold Stays_ofBoat_l3
      rw [if_pos (by rw [t1, hn]; exact Int32.le_refl _)]
      rfl) n 0 (by omega) (fun k _ hk c => by
      show Stays_ofBoat_l3 b (nI a) (nI e) x (nI k) = _
      obtain ⟨k1, k2, k3⟩ := key k hk
      unfold Stays_ofBoat_l3
      simp only [if_neg k1, chk_t k2, bnd_eq, k3, nI_1, t2, t4, t5]
      by_cases c1 : m.2 10 k = b
      · rw [if_pos c1]
        by_cases c2 : nI e ≤ m.2 12 k
        · rw [if_pos c2]
        · rw [if_neg c2]
          have c3 : m.2 13 k ≤ nI a := by
            rw [fa_le, hei] at c2
            rw [fa_le, hai]
            exact Classical.byContradiction fun q => c ⟨c1, by omega, by omega⟩
          rw [if_pos c3]
      · rw [if_neg c1]) (fun k _ hk c => by
      show Stays_ofBoat_l3 b (nI a) (nI e) x (nI k) = _
      obtain ⟨k1, k2, k3⟩ := key k hk
      obtain ⟨c1, c2, c3⟩ := c
      have d2 : ¬ nI e ≤ m.2 12 k := by rw [fa_le, hei]; omega
      have d3 : ¬ m.2 13 k ≤ nI a := by rw [fa_le, hai]; omega
      unfold Stays_ofBoat_l3
      simp only [if_neg k1, chk_t k2, bnd_eq, k3, nI_1, t2, t4, t5]
      rw [if_pos c1, if_neg d2, if_neg d3]
      rfl)
  rw [nI_0] at hl
  rcases hl with ⟨h1, h2⟩ | ⟨s, h1, h2, h3, h4, h5⟩
  · exact Or.inl ⟨fun s hs => h1 s (Nat.zero_le s) (by omega), h2⟩
  · exact Or.inr ⟨s, by omega, h3.1, h3.2, fun j hj => h4 j (Nat.zero_le j) hj, h5⟩
theorem atHome_eq {x m : MS} (hO : JO x m) (hS : JS x m) {p d : Nat} (hp : p < 2 ^ 31) (hd : d < 2 ^ 31) : ((∀ k : Nat, (k : Int) < (m.1 2).toInt → ¬ ((m.2 6 k).toInt = (p : Int) ∧ ¬ Aw m (nI k) d)) ∧ f_Md_atHome (nI p) (nI d) m = some (-1)) ∨ ∃ k : Nat, (k : Int) < (m.1 2).toInt ∧ (m.2 6 k).toInt = (p : Int) ∧ ¬ Aw m (nI k) d ∧ f_Md_atHome (nI p) (nI d) m = some (nI k) := by
  obtain ⟨o1, o2, o3, o4, o5, o6, o7⟩ := hO
  have o62 := o6.2
  have hc := cl_ti o6.1
  have hn : m.1 2 = nI (m.1 2).toNatClampNeg := cnt_nI o6.1
  obtain ⟨n, hnn⟩ : ∃ n, n = (m.1 2).toNatClampNeg := ⟨_, rfl⟩
  rw [← hnn] at hc hn
  have hpi : (nI p).toInt = (p : Int) := nI_toInt hp
  have key : ∀ k : Nat, k < n → ¬ m.1 2 ≤ nI k ∧ inb (nI k) 30 = true ∧ (nI k).toNatClampNeg = k := fun k hk => ⟨by rw [hn]; exact nI_ge hk (by omega), inb_iff.mpr ⟨by rw [nI_toInt (by omega)]; omega, by rw [nI_toInt (by omega)]; show _ < (30 : Int); omega⟩, nI_clamp (by omega)⟩
  have hl := loop_first (f := fun z => Md_atHome_l2 (nI p) (nI d) m z) (fun k => (m.2 6 k).toInt = (p : Int) ∧ ¬ Aw m (nI k) d) (fun s => nI s) (-1) n (by
      show Md_atHome_l2 (nI p) (nI d) m (nI n) = _
      unfold Md_atHome_l2
      rw [if_pos (by rw [hn]; exact Int32.le_refl _)]
      rfl) n 0 (by omega) (fun k _ hk c => by
      show Md_atHome_l2 (nI p) (nI d) m (nI k) = _
      obtain ⟨k1, k2, k3⟩ := key k hk
      unfold Md_atHome_l2
      rw [if_neg k1, chk_t k2, bnd_eq, k3]
      by_cases c1 : m.2 6 k = nI p
      · have c2 : Aw m (nI k) d := Classical.byContradiction fun q => c ⟨by rw [c1]; exact hpi, q⟩
        rw [if_pos c1, (isAway_says hS (nI k) hd).1 c2, Option.bind_some, if10, bnd_eq, nI_1]
      · rw [if_neg c1, bnd_eq, nI_1]) (fun k _ hk c => by
      show Md_atHome_l2 (nI p) (nI d) m (nI k) = _
      obtain ⟨k1, k2, k3⟩ := key k hk
      have c1 : m.2 6 k = nI p := by rw [fa_eq, hpi]; exact c.1
      unfold Md_atHome_l2
      rw [if_neg k1, chk_t k2, bnd_eq, k3, if_pos c1, (isAway_says hS (nI k) hd).2 c.2, Option.bind_some, if00]
      rfl)
  rw [nI_0] at hl
  rcases hl with ⟨h1, h2⟩ | ⟨s, h1, h2, h3, h4, h5⟩
  · exact Or.inl ⟨fun s hs => h1 s (Nat.zero_le s) (by omega), h2⟩
  · exact Or.inr ⟨s, by omega, h3.1, h3.2, h5⟩
