theorem cb65 {x m : MS} (hL : JL x m) (hB : JB x m) {p : Nat} (hp : (p : Int) < (m.1 1).toInt) (ln dr : Int32) : Says (loop (fun z => Md_canBeHome_l65 ln dr (nI p) m z) (0 : Int32)) (Fit m ln dr p 0 400) := by
  have hl := loop_first (f := fun z => Md_canBeHome_l65 ln dr (nI p) m z) (fun d => ¬ (ln.toInt ≤ (m.2 1 p).toInt ∧ dr.toInt ≤ (m.2 2 p).toInt + (lvl m d).toInt)) (fun _ => (0 : Int32)) 1 400 (by
      show Md_canBeHome_l65 ln dr (nI p) m (nI 400) = _
      unfold Md_canBeHome_l65
      rw [if_pos (by decide)]
      rfl) 400 0 (by omega) (fun d h1 h2 c => by
      show Md_canBeHome_l65 ln dr (nI p) m (nI d) = _
      have n1 : ¬ (400 : Int32) ≤ nI d := by rw [fa_le, nI_toInt (by omega)]; show ¬ (400 : Int) ≤ d; omega
      unfold Md_canBeHome_l65
      rw [if_neg n1, (isFit_says hL hB hp (d := d) (by omega) ln dr).1 (Classical.not_not.mp c), Option.bind_some, if10, bnd_eq, nI_1]) (fun d h1 h2 c => by
      show Md_canBeHome_l65 ln dr (nI p) m (nI d) = _
      have n1 : ¬ (400 : Int32) ≤ nI d := by rw [fa_le, nI_toInt (by omega)]; show ¬ (400 : Int) ≤ d; omega
      unfold Md_canBeHome_l65
      rw [if_neg n1, (isFit_says hL hB hp (d := d) (by omega) ln dr).2 c, Option.bind_some, if00]
      rfl)
  rw [nI_0] at hl
  rcases hl with ⟨h1, h2⟩ | ⟨d, h1, h2, h3, h4, h5⟩
  · have hf : Fit m ln dr p 0 400 := ⟨(Classical.not_not.mp (h1 0 (Nat.le_refl 0) (by omega))).1, fun j q1 q2 => (Classical.not_not.mp (h1 j q1 q2)).2⟩
    exact ⟨fun _ => h2, fun q => absurd hf q⟩
  · exact ⟨fun hf => absurd ⟨hf.1, hf.2 d h1 h2⟩ h3, fun _ => h5⟩
theorem cb34 {x m : MS} (hL : JL x m) (hB : JB x m) (hT : JT x m) {p : Nat} (hp : (p : Int) < (m.1 1).toInt) (ln dr : Int32) : Says (loop (fun z => Md_canBeHome_l34 ln dr (nI p) m z) (0 : Int32)) ((∀ s : Nat, (s : Int) < (m.1 4).toInt → ¬ m.2 11 s = nI p) ∧ Fit m ln dr p 0 400) := by
  have t6 := hT.2.2.2.2.2.1
  have t62 := t6.2
  have hc := cl_ti t6.1
  have hn : m.1 4 = nI (m.1 4).toNatClampNeg := cnt_nI t6.1
  obtain ⟨n, hnn⟩ : ∃ n, n = (m.1 4).toNatClampNeg := ⟨_, rfl⟩
  rw [← hnn] at hc hn
  have g := cb65 hL hB hp ln dr
  obtain ⟨r, hr, hr1, hr0⟩ : ∃ r : Int32, loop (fun z => Md_canBeHome_l65 ln dr (nI p) m z) (0 : Int32) = some r ∧ (Fit m ln dr p 0 400 → r = 1) ∧ (¬ Fit m ln dr p 0 400 → r = 0) := by
    by_cases c : Fit m ln dr p 0 400
    · exact ⟨1, g.1 c, fun _ => rfl, fun q => absurd c q⟩
    · exact ⟨0, g.2 c, fun q => absurd q c, fun _ => rfl⟩
  have key : ∀ k : Nat, k < n → ¬ m.1 4 ≤ nI k ∧ inb (nI k) 40 = true ∧ (nI k).toNatClampNeg = k := fun k hk => ⟨by rw [hn]; exact nI_ge hk (by omega), inb_iff.mpr ⟨by rw [nI_toInt (by omega)]; omega, by rw [nI_toInt (by omega)]; show _ < (40 : Int); omega⟩, nI_clamp (by omega)⟩
  have hl := loop_first (f := fun z => Md_canBeHome_l34 ln dr (nI p) m z) (fun s => m.2 11 s = nI p) (fun _ => (0 : Int32)) r n (by
      show Md_canBeHome_l34 ln dr (nI p) m (nI n) = _
      unfold Md_canBeHome_l34
      rw [if_pos (by rw [hn]; exact Int32.le_refl _), hr]
      rfl) n 0 (by omega) (fun k _ hk c => by
      show Md_canBeHome_l34 ln dr (nI p) m (nI k) = _
      obtain ⟨k1, k2, k3⟩ := key k hk
      unfold Md_canBeHome_l34
      rw [if_neg k1, chk_t k2, bnd_eq, k3, if_neg c, bnd_eq, nI_1]) (fun k _ hk c => by
      show Md_canBeHome_l34 ln dr (nI p) m (nI k) = _
      obtain ⟨k1, k2, k3⟩ := key k hk
      unfold Md_canBeHome_l34
      rw [if_neg k1, chk_t k2, bnd_eq, k3, if_pos c]
      rfl)
  rw [nI_0] at hl
  rcases hl with ⟨h1, h2⟩ | ⟨s, h1, h2, h3, h4, h5⟩
  · refine ⟨fun q => by rw [h2, hr1 q.2], fun q => by rw [h2, hr0 (fun z => q ⟨fun s hs => h1 s (Nat.zero_le s) (by omega), z⟩)]⟩
  · exact ⟨fun q => absurd h3 (q.1 s (by omega)), fun _ => h5⟩
theorem mcan_says {x m : MS} (hL : JL x m) (hB : JB x m) (hO : JO x m) (hT : JT x m) {p : Nat} (hp : (p : Int) < (m.1 1).toInt) (ln dr : Int32) : Says (f_Md_canBeHome ln dr (nI p) m) ((∀ k : Nat, (k : Int) < (m.1 2).toInt → ¬ m.2 6 k = nI p) ∧ (∀ s : Nat, (s : Int) < (m.1 4).toInt → ¬ m.2 11 s = nI p) ∧ Fit m ln dr p 0 400) := by
  have o6 := hO.2.2.2.2.2.1
  have o62 := o6.2
  have hc := cl_ti o6.1
  have hn : m.1 2 = nI (m.1 2).toNatClampNeg := cnt_nI o6.1
  obtain ⟨n, hnn⟩ : ∃ n, n = (m.1 2).toNatClampNeg := ⟨_, rfl⟩
  rw [← hnn] at hc hn
  have g := cb34 hL hB hT hp ln dr
  obtain ⟨r, hr, hr1, hr0⟩ : ∃ r : Int32, loop (fun z => Md_canBeHome_l34 ln dr (nI p) m z) (0 : Int32) = some r ∧ (((∀ s : Nat, (s : Int) < (m.1 4).toInt → ¬ m.2 11 s = nI p) ∧ Fit m ln dr p 0 400) → r = 1) ∧ (¬ ((∀ s : Nat, (s : Int) < (m.1 4).toInt → ¬ m.2 11 s = nI p) ∧ Fit m ln dr p 0 400) → r = 0) := by
    by_cases c : ((∀ s : Nat, (s : Int) < (m.1 4).toInt → ¬ m.2 11 s = nI p) ∧ Fit m ln dr p 0 400)
    · exact ⟨1, g.1 c, fun _ => rfl, fun q => absurd c q⟩
    · exact ⟨0, g.2 c, fun q => absurd q c, fun _ => rfl⟩
  have key : ∀ k : Nat, k < n → ¬ m.1 2 ≤ nI k ∧ inb (nI k) 30 = true ∧ (nI k).toNatClampNeg = k := fun k hk => ⟨by rw [hn]; exact nI_ge hk (by omega), inb_iff.mpr ⟨by rw [nI_toInt (by omega)]; omega, by rw [nI_toInt (by omega)]; show _ < (30 : Int); omega⟩, nI_clamp (by omega)⟩
  unfold f_Md_canBeHome
  have hl := loop_first (f := fun z => Md_canBeHome_l3 ln dr (nI p) m z) (fun s => m.2 6 s = nI p) (fun _ => (0 : Int32)) r n (by
      show Md_canBeHome_l3 ln dr (nI p) m (nI n) = _
      unfold Md_canBeHome_l3
      rw [if_pos (by rw [hn]; exact Int32.le_refl _), hr]
      rfl) n 0 (by omega) (fun k _ hk c => by
      show Md_canBeHome_l3 ln dr (nI p) m (nI k) = _
      obtain ⟨k1, k2, k3⟩ := key k hk
      unfold Md_canBeHome_l3
      rw [if_neg k1, chk_t k2, bnd_eq, k3, if_neg c, bnd_eq, nI_1]) (fun k _ hk c => by
      show Md_canBeHome_l3 ln dr (nI p) m (nI k) = _
      obtain ⟨k1, k2, k3⟩ := key k hk
      unfold Md_canBeHome_l3
      rw [if_neg k1, chk_t k2, bnd_eq, k3, if_pos c]
      rfl)
  rw [nI_0] at hl
  rcases hl with ⟨h1, h2⟩ | ⟨s, h1, h2, h3, h4, h5⟩
  · refine ⟨fun q => by rw [h2, hr1 q.2], fun q => by rw [h2, hr0 (fun z => q ⟨fun s hs => h1 s (Nat.zero_le s) (by omega), z⟩)]⟩
  · exact ⟨fun q => absurd h3 (q.1 s (by omega)), fun _ => h5⟩
theorem xcan_says {x m : MS} (h : Inv x m) {p : Nat} (hp : (p : Int) < (m.1 1).toInt) (ln dr : Int32) : Says (f_Hb_canBeHome (nI p) ln dr x) ((∀ k : Nat, (k : Int) < (m.1 2).toInt → ¬ m.2 6 k = nI p) ∧ (∀ s : Nat, (s : Int) < (m.1 4).toInt → ¬ m.2 11 s = nI p) ∧ Fit m ln dr p 0 400) := by
  obtain ⟨hL, hB, hO, hH, hS, hT, hK, hC, hW, hP, hR, hU⟩ := id h
  have b42 : (m.1 1).toInt ≤ 10 := hB.2.2.2.1.2
  have o62 : (m.1 2).toInt ≤ 30 := hO.2.2.2.2.2.1.2
  have t62 : (m.1 4).toInt ≤ 40 := hT.2.2.2.2.2.1.2
  have t7 := hT.2.2.2.2.2.2
  have hpi : (nI p).toInt = (p : Int) := nI_toInt (by omega)
  have hi : inb (nI p) 10 = true := inb_iff.mpr ⟨by rw [hpi]; omega, by rw [hpi]; show _ < (10 : Int); omega⟩
  unfold f_Hb_canBeHome f_Berths_has
  rw [hB.1, has_t (a := nI p) (z := m.1 1) ⟨by rw [hpi]; omega, by rw [hpi]; omega⟩, Option.bind_some, if10, chk_t hi, bnd_eq, nI_clamp (by omega)]
  rcases hH p hp with ⟨h1, h2⟩ | ⟨k, h1, h2, h3, h4⟩
  · rw [if_pos h1]
    have hh : ∀ k : Nat, (k : Int) < (m.1 2).toInt → ¬ m.2 6 k = nI p := fun k hk q => h2 k hk (by rw [q]; exact hpi)
    have e0 : (0 : Int32) = nI 0 := nI_0.symm
    have e4 : (400 : Int32) = nI 400 := rfl
    rw [e0, e4]
    rcases atBerth_eq hT (nI p) (a := 0) (e := 400) (by omega) (by omega) with ⟨w1, w2⟩ | ⟨s2, w1, w2, w3, w4, w5⟩
    · have hs : ∀ s : Nat, (s : Int) < (m.1 4).toInt → ¬ m.2 11 s = nI p := fun s hs q => w1 s hs ⟨q, by
        have r := t7 s hs
        exact ⟨by show _ < ((400 : Nat) : Int); omega, by show ((0 : Nat) : Int) < _; omega⟩⟩
      obtain ⟨v, v1, v2, d, v3, v4, v5⟩ := lowest_eq hL (a := 0) (b := 400) (by omega) (by omega)
      have hv := lvl_rng hL d
      rw [← v5] at hv
      have ht := takes_says hB hp ln dr hv
      rw [w2, Option.bind_some, if_pos rfl, v1, Option.bind_some]
      by_cases c : Fit m ln dr p 0 400
      · rw [ht.1 ⟨c.1, by rw [v5]; exact c.2 d v3 v4⟩]
        exact ⟨fun _ => rfl, fun q => absurd ⟨hh, hs, c⟩ q⟩
      · rw [ht.2 (fun q => c ⟨q.1, fun d2 z1 z2 => by have := v2 d2 z1 z2; omega⟩)]
        exact ⟨fun q => absurd q.2.2 c, fun _ => by rw [nI_0]; rfl⟩
    · have n1 : ¬ nI s2 = -1 := by
        rw [fa_eq, nI_toInt (by omega)]
        show ¬ (s2 : Int) = -1
        omega
      rw [w5, Option.bind_some, if_neg n1]
      exact ⟨fun q => absurd w2 (q.2.1 s2 w1), fun _ => by rw [nI_0]⟩
  · have hne : ¬ x.2 6 p = -1 := by
      rw [h2, fa_eq, nI_toInt (by omega)]
      show ¬ (k : Int) = -1
      omega
    rw [if_neg hne]
    exact ⟨fun q => absurd (show m.2 6 k = nI p by rw [fa_eq, hpi]; exact h3) (q.1 k h1), fun _ => rfl⟩
