/-- a loop that looks for the first place with P -/
theorem loop_first {R : Type} {f : Int32 → Option (Int32 ⊕ R)} (P : Nat → Prop) (r : Nat → R) (e : R) (b : Nat) (he : f (nI b) = some (.inr e)) : ∀ (n a : Nat), a + n = b → (∀ d, a ≤ d → d < b → ¬ P d → f (nI d) = some (.inl (nI (d + 1)))) → (∀ d, a ≤ d → d < b → P d → f (nI d) = some (.inr (r d))) →
    ((∀ d, a ≤ d → d < b → ¬ P d) ∧ loop f (nI a) = some e) ∨ ∃ d, a ≤ d ∧ d < b ∧ P d ∧ (∀ j, a ≤ j → j < d → ¬ P j) ∧ loop f (nI a) = some (r d)
  | 0, a, hab, hn, hy => by
    have hab : a = b := hab
    subst hab
    exact Or.inl ⟨fun d h1 h2 => by omega, loop_inr he⟩
  | n + 1, a, hab, hn, hy => by
    by_cases c : P a
    · exact Or.inr ⟨a, Nat.le_refl a, by omega, c, fun j h1 h2 => by omega, loop_inr (hy a (Nat.le_refl a) (by omega) c)⟩
    · have h1 := loop_inl (hn a (Nat.le_refl a) (by omega) c)
      rcases loop_first P r e b he n (a + 1) (by omega) (fun d q1 q2 => hn d (by omega) q2) (fun d q1 q2 => hy d (by omega) q2) with ⟨q1, q2⟩ | ⟨d, q1, q2, q3, q4, q5⟩
      · refine Or.inl ⟨fun d z1 z2 => ?_, h1.trans q2⟩
        by_cases e : d = a
        · rw [e]; exact c
        · exact q1 d (by omega) z2
      · refine Or.inr ⟨d, by omega, q2, q3, fun j z1 z2 => ?_, h1.trans q5⟩
        by_cases e : j = a
        · rw [e]; exact c
        · exact q4 j (by omega) z2
-- ===== low water =====
/-- the level of a day, as the reference has it -/
def lvl (m : MS) (d : Nat) : Int32 := m.2 0 (d % (m.1 0).toNatClampNeg)
theorem lvl_rng {x m : MS} (h : JL x m) (d : Nat) : 0 ≤ (lvl m d).toInt ∧ (lvl m d).toInt ≤ 40 := by
  obtain ⟨l1, l2, l3, l4, l5⟩ := h
  have hc := cl_ti (x := m.1 0) (by omega)
  exact l5 _ (Nat.lt_of_lt_of_le (Nat.mod_lt _ (by omega)) (by omega))
theorem on_eq {x m : MS} (h : JL x m) {d : Nat} (hd : d < 2 ^ 31) : f_Tide_on (nI d) x = some (lvl m d) := by
  obtain ⟨l1, l2, l3, l4, l5⟩ := h
  have hc := cl_ti (x := m.1 0) (by omega)
  have hn : m.1 0 = nI (m.1 0).toNatClampNeg := cnt_nI (by omega)
  have hm : d % (m.1 0).toNatClampNeg < (m.1 0).toNatClampNeg := Nat.mod_lt _ (by omega)
  have hr : nI d - nI d / x.1 1 * x.1 1 = nI (d % (m.1 0).toNatClampNeg) := by
    rw [l1]
    conv => lhs; rw [hn]
    exact pk_rem hd (by omega) (by omega)
  have h1 : ¬ nI d < 0 := nI_pos hd
  have h2 : (1 : Int32) ≤ x.1 1 := by rw [l1, fa_le]; exact l3
  have h3 : decide (¬ x.1 1 = 0) = true := decide_eq_true (by rw [l1, fa_eq]; show ¬ _ = (0 : Int); omega)
  unfold f_Tide_on
  rw [if_neg h1, if_pos h2, chk_t h3, hr, chk_t (inb_iff.mpr ⟨by rw [nI_toInt (by omega)]; omega, by rw [nI_toInt (by omega)]; show _ < (30 : Int); omega⟩), bnd_eq, nI_clamp (by omega), l2]
  rfl
/-- the lowest of the first k levels from a on, not above 40 -/
def mnl (m : MS) (a : Nat) : Nat → Int32
  | 0 => 40
  | k + 1 => if lvl m (a + k) < mnl m a k then lvl m (a + k) else mnl m a k
theorem mnl_le {m : MS} {a : Nat} : ∀ {k j : Nat}, j < k → (mnl m a k).toInt ≤ (lvl m (a + j)).toInt
  | 0, j, h => by omega
  | k + 1, j, h => by
    show (if lvl m (a + k) < mnl m a k then lvl m (a + k) else mnl m a k).toInt ≤ _
    by_cases e : j = k
    · subst e
      by_cases c : lvl m (a + j) < mnl m a j
      · rw [if_pos c]; omega
      · rw [if_neg c]; rw [fa_lt] at c; omega
    · have ih := mnl_le (m := m) (a := a) (k := k) (j := j) (by omega)
      by_cases c : lvl m (a + k) < mnl m a k
      · rw [if_pos c]; rw [fa_lt] at c; omega
      · rw [if_neg c]; exact ih
theorem mnl_is {x m : MS} (h : JL x m) {a : Nat} : ∀ {k : Nat}, 0 < k → ∃ j, j < k ∧ (mnl m a k).toInt = (lvl m (a + j)).toInt
  | 0, h => by omega
  | k + 1, _ => by
    show ∃ j, j < k + 1 ∧ (if lvl m (a + k) < mnl m a k then lvl m (a + k) else mnl m a k).toInt = _
    by_cases c : lvl m (a + k) < mnl m a k
    · rw [if_pos c]
      exact ⟨k, by omega, rfl⟩
    · rw [if_neg c]
      by_cases k0 : k = 0
      · subst k0
        refine ⟨0, by omega, ?_⟩
        have r := lvl_rng h (a + 0)
        rw [fa_lt] at c
        have c : ¬ (lvl m (a + 0)).toInt < 40 := c
        show (40 : Int) = _
        omega
      · obtain ⟨j, h1, h2⟩ := mnl_is h (a := a) (k := k) (by omega)
        exact ⟨j, by omega, h2⟩
theorem lowest_eq {x m : MS} (h : JL x m) {a b : Nat} (hab : a < b) (hb : b ≤ 400) : ∃ v : Int32, f_Tide_lowest (nI a) (nI b) x = some v ∧ (∀ d, a ≤ d → d < b → v.toInt ≤ (lvl m d).toInt) ∧ ∃ d, a ≤ d ∧ d < b ∧ v.toInt = (lvl m d).toInt := by
  obtain ⟨l1, l2, l3, l4, l5⟩ := id h
  have hc := cl_ti (x := m.1 0) (by omega)
  have hn : m.1 0 = nI (m.1 0).toNatClampNeg := cnt_nI (by omega)
  obtain ⟨n, hnn⟩ : ∃ n, n = (m.1 0).toNatClampNeg := ⟨_, rfl⟩
  rw [← hnn] at hc hn
  obtain ⟨k, hk⟩ : ∃ k, k = min (b - a) n := ⟨_, rfl⟩
  have hlast : (if nI a + x.1 1 < nI b then nI a + x.1 1 else nI b) = nI (a + k) := by
    rw [l1, hn, nI_add]
    by_cases c : a + n < b
    · rw [if_pos ((nI_ltI (by omega) (by omega)).mpr c), show k = n by omega]
    · rw [if_neg (fun q => c ((nI_ltI (by omega) (by omega)).mp q)), show a + k = b by omega]
  have hloop : f_Tide_lowest (nI a) (nI b) x = some (mnl m a k) := by
    unfold f_Tide_lowest
    rw [hlast, bnd_eq]
    have h0 : (((40 : Int32), nI a) : Int32 × Int32) = (fun i : Nat => ((mnl m a i, nI (a + i)) : Int32 × Int32)) 0 := rfl
    rw [h0]
    refine loop_up (fun i : Nat => ((mnl m a i, nI (a + i)) : Int32 × Int32)) k _ (fun i hi => ?_) ?_
    · show Tide_lowest_l18 (nI (a + k)) x (mnl m a i) (nI (a + i)) = _
      unfold Tide_lowest_l18
      have e1 : ¬ nI (a + k) ≤ nI (a + i) := nI_ge (by omega) (by omega)
      rw [if_neg e1, on_eq h (by omega), Option.bind_some, bnd_eq, bnd_eq, nI_1]
      rfl
    · show Tide_lowest_l18 (nI (a + k)) x (mnl m a k) (nI (a + k)) = _
      unfold Tide_lowest_l18
      rw [if_pos (Int32.le_refl _)]
      rfl
  refine ⟨mnl m a k, hloop, fun d h1 h2 => ?_, ?_⟩
  · -- the same level comes again within the first k days
    have hd : lvl m d = lvl m (a + (d - a) % n) := by
      unfold lvl
      rw [← hnn, show d = a + (d - a) by omega, Nat.add_mod, show a + (d - a) - a = d - a by omega]
      conv => rhs; rw [Nat.add_mod, Nat.mod_mod]
    rw [hd]
    refine mnl_le ?_
    have h3 : (d - a) % n < n := Nat.mod_lt _ (by omega)
    have h4 : (d - a) % n ≤ d - a := Nat.mod_le _ _
    omega
  · obtain ⟨j, h1, h2⟩ := mnl_is h (a := a) (k := k) (by omega)
    exact ⟨a + j, by omega, by omega, h2⟩
/-- a boat of that length and draught fits a berth on all days a .. b - 1 -/
def Fit (m : MS) (ln dr : Int32) (p : Nat) (a b : Nat) : Prop := ln.toInt ≤ (m.2 1 p).toInt ∧ ∀ d, a ≤ d → d < b → dr.toInt ≤ (m.2 2 p).toInt + (lvl m d).toInt
theorem dep_add {x m : MS} (hL : JL x m) (hB : JB x m) {p : Nat} (hp : (p : Int) < (m.1 1).toInt) {v : Int32} (hv : 0 ≤ v.toInt ∧ v.toInt ≤ 40) : (m.2 2 p + v).toInt = (m.2 2 p).toInt + v.toInt := by
  have r := hB.2.2.2.2 p hp
  exact fb_addI (by omega) (by omega)
/-- a method that says whether -/
def Says (o : Option Int32) (P : Prop) : Prop := (P → o = some 1) ∧ (¬ P → o = some 0)
theorem Says.iff {o : Option Int32} {P Q : Prop} (h : Says o P) (e : P ↔ Q) : Says o Q := ⟨fun q => h.1 (e.mpr q), fun q => h.2 (fun p => q (e.mp p))⟩
theorem takes_says {x m : MS} (hB : JB x m) {p : Nat} (hp : (p : Int) < (m.1 1).toInt) (ln dr : Int32) {v : Int32} (hv : 0 ≤ v.toInt ∧ v.toInt ≤ 40) : Says (f_Berths_takes (nI p) ln dr v x) (ln.toInt ≤ (m.2 1 p).toInt ∧ dr.toInt ≤ (m.2 2 p).toInt + v.toInt) := by
  obtain ⟨b1, b2, b3, b4, b5⟩ := id hB
  have b42 := b4.2
  have r := b5 p hp
  have ha : (m.2 2 p + v).toInt = (m.2 2 p).toInt + v.toInt := fb_addI (by omega) (by omega)
  have hi : inb (nI p) 10 = true := inb_iff.mpr ⟨by rw [nI_toInt (by omega)]; omega, by rw [nI_toInt (by omega)]; show _ < (10 : Int); omega⟩
  unfold f_Berths_takes
  rw [chk_t hi, bnd_eq, nI_clamp (by omega), b2, chk_t hi, bnd_eq, b3]
  refine ⟨fun ⟨h1, h2⟩ => ?_, fun h => ?_⟩
  · have n1 : ¬ m.2 1 p < ln := by rw [fa_lt]; omega
    have n2 : ¬ m.2 2 p + v < dr := by rw [fa_lt, ha]; omega
    rw [if_neg n1, if_neg n2]
  · by_cases c : m.2 1 p < ln
    · rw [if_pos c]
    · have n2 : m.2 2 p + v < dr := by rw [fa_lt, ha]; rw [fa_lt] at c; omega
      rw [if_neg c, if_pos n2]
theorem isFit_says {x m : MS} (hL : JL x m) (hB : JB x m) {p d : Nat} (hp : (p : Int) < (m.1 1).toInt) (hd : d < 2 ^ 31) (ln dr : Int32) : Says (f_Md_isFit ln dr (nI p) (nI d) m) (ln.toInt ≤ (m.2 1 p).toInt ∧ dr.toInt ≤ (m.2 2 p).toInt + (lvl m d).toInt) := by
  obtain ⟨b1, b2, b3, b4, b5⟩ := id hB
  obtain ⟨l1, l2, l3, l4, l5⟩ := id hL
  have b42 := b4.2
  have r := b5 p hp
  have hv := lvl_rng hL d
  have hc := cl_ti (x := m.1 0) (by omega)
  have hn : m.1 0 = nI (m.1 0).toNatClampNeg := cnt_nI (by omega)
  have hm : d % (m.1 0).toNatClampNeg < (m.1 0).toNatClampNeg := Nat.mod_lt _ (by omega)
  have hr : nI d - nI d / m.1 0 * m.1 0 = nI (d % (m.1 0).toNatClampNeg) := by
    conv => lhs; rw [hn]
    exact pk_rem hd (by omega) (by omega)
  have ha : (m.2 2 p + lvl m d).toInt = (m.2 2 p).toInt + (lvl m d).toInt := fb_addI (by omega) (by omega)
  have hi : inb (nI p) 10 = true := inb_iff.mpr ⟨by rw [nI_toInt (by omega)]; omega, by rw [nI_toInt (by omega)]; show _ < (10 : Int); omega⟩
  have h3 : decide (¬ m.1 0 = 0) = true := decide_eq_true (by rw [fa_eq]; show ¬ _ = (0 : Int); omega)
  have hj : inb (nI (d % (m.1 0).toNatClampNeg)) 30 = true := inb_iff.mpr ⟨by rw [nI_toInt (by omega)]; omega, by rw [nI_toInt (by omega)]; show _ < (30 : Int); omega⟩
  have hq : (nI (d % (m.1 0).toNatClampNeg)).toNatClampNeg = d % (m.1 0).toNatClampNeg := nI_clamp (by omega)
  unfold f_Md_isFit
  rw [chk_t hi, bnd_eq, nI_clamp (by omega), chk_t hi, bnd_eq, chk_t h3, hr, chk_t hj, bnd_eq, hq]
  show Says (if m.2 1 p < ln then some 0 else if m.2 2 p + lvl m d < dr then some 0 else some 1) _
  refine ⟨fun ⟨h1, h2⟩ => ?_, fun h => ?_⟩
  · have n1 : ¬ m.2 1 p < ln := by rw [fa_lt]; omega
    have n2 : ¬ m.2 2 p + lvl m d < dr := by rw [fa_lt, ha]; omega
    rw [if_neg n1, if_neg n2]
  · by_cases c : m.2 1 p < ln
    · rw [if_pos c]
    · have n2 : m.2 2 p + lvl m d < dr := by rw [fa_lt, ha]; rw [fa_lt] at c; omega
      rw [if_neg c, if_pos n2]
theorem fan_says {x m : MS} (hL : JL x m) (hB : JB x m) (hO : JO x m) {k p a b : Nat} (hk : (k : Int) < (m.1 2).toInt) (hp : (p : Int) < (m.1 1).toInt) (hab : a < b) (hb : b ≤ 400) : Says (f_Hb_fitsAllNights (nI k) (nI p) (nI a) (nI b) x) (Fit m (m.2 3 k) (m.2 4 k) p a b) := by
  obtain ⟨o1, o2, o3, o4, o5, o6, o7⟩ := id hO
  have o62 := o6.2
  have hi : inb (nI k) 30 = true := inb_iff.mpr ⟨by rw [nI_toInt (by omega)]; omega, by rw [nI_toInt (by omega)]; show _ < (30 : Int); omega⟩
  obtain ⟨v, h1, h2, d, h3, h4, h5⟩ := lowest_eq hL hab hb
  have hv := lvl_rng hL d
  rw [← h5] at hv
  have ht := takes_says hB hp (m.2 3 k) (m.2 4 k) hv
  unfold f_Hb_fitsAllNights
  rw [chk_t hi, bnd_eq, nI_clamp (by omega), chk_t hi, bnd_eq, h1, Option.bind_some, o2, o3]
  refine ⟨fun hf => ?_, fun hf => ?_⟩
  · rw [ht.1 ⟨hf.1, by rw [h5]; exact hf.2 d h3 h4⟩]
    rfl
  · rw [ht.2 (fun q => hf ⟨q.1, fun d2 e1 e2 => by have := h2 d2 e1 e2; omega⟩)]
    rfl
theorem fitsAll_says {x m : MS} (hL : JL x m) (hB : JB x m) (hO : JO x m) {k p a b : Nat} (hk : (k : Int) < (m.1 2).toInt) (hp : (p : Int) < (m.1 1).toInt) (hab : a < b) (hb : b ≤ 400) : Says (f_Md_fitsAll (nI k) (nI p) (nI a) (nI b) m) (Fit m (m.2 3 k) (m.2 4 k) p a b) := by
  obtain ⟨o1, o2, o3, o4, o5, o6, o7⟩ := id hO
  have o62 := o6.2
  have hi : inb (nI k) 30 = true := inb_iff.mpr ⟨by rw [nI_toInt (by omega)]; omega, by rw [nI_toInt (by omega)]; show _ < (30 : Int); omega⟩
  have hkc : (nI k).toNatClampNeg = k := nI_clamp (by omega)
  have hloop := loop_first (f := fun z => Md_fitsAll_l3 (nI k) (nI p) (nI b) m z) (fun d => ¬ ((m.2 3 k).toInt ≤ (m.2 1 p).toInt ∧ (m.2 4 k).toInt ≤ (m.2 2 p).toInt + (lvl m d).toInt)) (fun _ => (0 : Int32)) 1 b (by
      show Md_fitsAll_l3 (nI k) (nI p) (nI b) m (nI b) = _
      unfold Md_fitsAll_l3
      rw [if_pos (Int32.le_refl _)]
      rfl) (b - a) a (by omega) (fun d h1 hd c => by
      show Md_fitsAll_l3 (nI k) (nI p) (nI b) m (nI d) = _
      unfold Md_fitsAll_l3
      have n1 : ¬ nI b ≤ nI d := nI_ge hd (by omega)
      rw [if_neg n1, chk_t hi, bnd_eq, chk_t hi, bnd_eq, hkc, (isFit_says hL hB hp (d := d) (by omega) (m.2 3 k) (m.2 4 k)).1 (Classical.not_not.mp c), Option.bind_some, if10, bnd_eq, nI_1]) (fun d h1 hd c => by
      show Md_fitsAll_l3 (nI k) (nI p) (nI b) m (nI d) = _
      unfold Md_fitsAll_l3
      have n1 : ¬ nI b ≤ nI d := nI_ge hd (by omega)
      rw [if_neg n1, chk_t hi, bnd_eq, chk_t hi, bnd_eq, hkc, (isFit_says hL hB hp (d := d) (by omega) (m.2 3 k) (m.2 4 k)).2 c, Option.bind_some, if00]
      rfl)
  rcases hloop with ⟨h1, h2⟩ | ⟨d, h1, h2, h3, h4, h5⟩
  · have hf : Fit m (m.2 3 k) (m.2 4 k) p a b := ⟨(Classical.not_not.mp (h1 a (Nat.le_refl a) hab)).1, fun j q1 q2 => (Classical.not_not.mp (h1 j q1 q2)).2⟩
    exact ⟨fun _ => h2, fun q => absurd hf q⟩
  · exact ⟨fun hf => absurd ⟨hf.1, hf.2 d h1 h2⟩ h3, fun _ => h5⟩
theorem st_fits : St_fits Inv := by
  intro a1 a2 a3 sx sm h
  obtain ⟨hL, hB, hO, hH, hS, hT, hK, hC, hW, hP, hR, hU⟩ := id h
  obtain ⟨o1, o2, o3, o4, o5, o6, o7⟩ := id hO
  have b4 := hB.2.2.2.1
  unfold f_Hb_fits f_Boats_has f_Berths_has f_Md_fits
  by_cases c1 : 0 ≤ a1.toInt ∧ a1.toInt < (sm.1 2).toInt
  · rw [ib_t o6 c1, o1, has_t c1, Option.bind_some, Option.bind_some, if10, if10]
    by_cases c2 : 0 ≤ a2.toInt ∧ a2.toInt < (sm.1 1).toInt
    · rw [inc_t b4 c2, hB.1, has_t c2, Option.bind_some, Option.bind_some, if10, if10]
      by_cases c3 : 0 ≤ a3.toInt ∧ a3.toInt ≤ 399
      · rw [day_t c3, in_t (lo := 0) (hi := 399) c3, Option.bind_some, Option.bind_some, if10, if10]
        have hi := inb_of o6 c1
        rw [chk_t hi, bnd_eq, chk_t hi, bnd_eq]
        have e1 := cnt_nI c1.1
        have e2 := cnt_nI c2.1
        have e3 := cnt_nI c3.1
        have k1 := cl_ti c1.1
        have k2 := cl_ti c2.1
        have k3 := cl_ti c3.1
        obtain ⟨i1, f1⟩ : ∃ n, n = a1.toNatClampNeg := ⟨_, rfl⟩
        obtain ⟨i2, f2⟩ : ∃ n, n = a2.toNatClampNeg := ⟨_, rfl⟩
        obtain ⟨i3, f3⟩ : ∃ n, n = a3.toNatClampNeg := ⟨_, rfl⟩
        rw [← f1] at e1 k1
        rw [← f2] at e2 k2
        rw [← f3] at e3 k3
        have g1 := fan_says hL hB hO (k := i1) (p := i2) (a := i3) (b := i3 + 1) (by omega) (by omega) (by omega) (by omega)
        have g2 := isFit_says hL hB (p := i2) (d := i3) (by omega) (by omega) (sm.2 3 i1) (sm.2 4 i1)
        rw [← f1, e1, e2, e3, nI_1]
        by_cases c : (sm.2 3 i1).toInt ≤ (sm.2 1 i2).toInt ∧ (sm.2 4 i1).toInt ≤ (sm.2 2 i2).toInt + (lvl sm i3).toInt
        · rw [g1.1 ⟨c.1, fun d h1 h2 => by rw [show d = i3 by omega]; exact c.2⟩, g2.1 c]
          exact ⟨1, rfl, rfl, h⟩
        · rw [g1.2 (fun q => c ⟨q.1, q.2 i3 (by omega) (by omega)⟩), g2.2 c]
          exact ⟨0, rfl, rfl, h⟩
      · rw [day_f c3, in_f (lo := 0) (hi := 399) c3]
        exact ⟨-1, rfl, rfl, h⟩
    · rw [inc_f b4 c2, hB.1, has_f c2]
      exact ⟨-1, rfl, rfl, h⟩
  · rw [ib_f o6 c1, o1, has_f c1]
    exact ⟨-1, rfl, rfl, h⟩
