-- ===== the reference's tries =====
/-- the first night of a stay from a day on -/
def fnt (m : MS) (day s : Nat) : Nat := if (m.2 12 s).toInt < (day : Int) then day else (m.2 12 s).toNatClampNeg
def AL (m : MS) (bo E day s b : Nat) : Prop := Fit m (m.2 3 (m.2 10 s).toNatClampNeg) (m.2 4 (m.2 10 s).toNatClampNeg) b (fnt m day s) (m.2 13 s).toNatClampNeg ∧ NoOwn3 m bo E b (fnt m day s) (m.2 13 s).toNatClampNeg
def SHr (m : MS) (s1 s2 : Nat) : Prop := (m.2 12 s1).toInt < (m.2 13 s2).toInt ∧ (m.2 12 s2).toInt < (m.2 13 s1).toInt
/-- what stands in the reference while it walks -/
def WB (m : MS) (day bo E n : Nat) (st : Nat → Nat) (w : MS) : Prop := FMW m w ∧ w.1 8 = nI day ∧ w.1 9 = nI bo ∧ w.1 10 = nI E ∧ n ≤ 12 ∧ ∀ k, k < n → w.2 14 k = nI (st k) ∧ (st k : Int) < (m.1 4).toInt ∧ (day : Int) < (m.2 13 (st k)).toInt
theorem fnt_eq {x m w : MS} (h : Inv x m) {day bo E n : Nat} {st : Nat → Nat} (hw : WB m day bo E n st w) (hday : day < 400) {k : Nat} (hk : k < n) : f_Md_firstNight (nI k) w = some (nI (fnt m day (st k))) := by
  obtain ⟨w1, w2, w3, w4, w5, w6⟩ := hw
  obtain ⟨p1, p2, p3⟩ := w6 k hk
  obtain ⟨hL, hB, hO, hH, hS, hT, hK, hC, hW, hP, hR, hU⟩ := id h
  have t62 := hT.2.2.2.2.2.1.2
  obtain ⟨-, -, -, -, -, t6, -, -⟩ := hT.2.2.2.2.2.2 (st k) p2
  have w12 : w.2 12 = m.2 12 := w1.2 12 (by omega)
  have h12 : inb (nI k) 12 = true := ib_nI (by omega) (by omega)
  have h40 : inb (nI (st k)) 40 = true := ib_nI (by omega) (by omega)
  unfold f_Md_firstNight fnt
  simp only [chk_t h12, bnd_eq, nI_clamp (show k < 2 ^ 31 by omega), p1, chk_t h40, nI_clamp (show st k < 2 ^ 31 by omega), w12, w2]
  by_cases c : (m.2 12 (st k)).toInt < (day : Int)
  · rw [if_pos c, if_neg (by rw [fa_le, nI_toInt (by omega)]; omega)]
  · rw [if_neg c, if_pos (by rw [fa_le, nI_toInt (by omega)]; omega), ← cnt_nI t6]
theorem fnt_rng {x m : MS} (h : Inv x m) {day s : Nat} (hs : (s : Int) < (m.1 4).toInt) (hd : (day : Int) < (m.2 13 s).toInt) : day ≤ fnt m day s ∧ fnt m day s < (m.2 13 s).toNatClampNeg ∧ (m.2 13 s).toNatClampNeg ≤ 400 ∧ m.2 13 s = nI (m.2 13 s).toNatClampNeg ∧ (fnt m day s : Int) = (if (m.2 12 s).toInt < (day : Int) then (day : Int) else (m.2 12 s).toInt) := by
  obtain ⟨hL, hB, hO, hH, hS, hT, hK, hC, hW, hP, hR, hU⟩ := id h
  obtain ⟨-, -, -, -, -, t6, t7, t8⟩ := hT.2.2.2.2.2.2 s hs
  have c1 := cl_ti t6
  have c2 := cl_ti (x := m.2 13 s) (by omega)
  unfold fnt
  by_cases c : (m.2 12 s).toInt < (day : Int)
  · rw [if_pos c, if_pos c]
    exact ⟨by omega, by omega, by omega, cnt_nI (by omega), rfl⟩
  · rw [if_neg c, if_neg c]
    exact ⟨by omega, by omega, by omega, cnt_nI (by omega), by omega⟩
theorem try_says {x m w : MS} (h : Inv x m) {day bo E n : Nat} {st : Nat → Nat} (hw : WB m day bo E n st w) (hday : day < 400) (hbo : (bo : Int) < (m.1 2).toInt) (hE : E ≤ 400) {c : Nat → Nat} {k b : Nat} (hk : k < n) (hb : (b : Int) < (m.1 1).toInt) (hc : ∀ j, j < k → w.2 15 j = nI (c j) ∧ c j < 10) : Says (f_Md_isTry (nI k) (nI b) w) (AL m bo E day (st k) b ∧ ∀ j, j < k → c j = b → ¬ SHr m (st j) (st k)) := by
  have hfn : ∀ j, j < n → f_Md_firstNight (nI j) w = some (nI (fnt m day (st j))) := fun j hj => fnt_eq h hw hday hj
  obtain ⟨w1, w2, w3, w4, w5, w6⟩ := id hw
  obtain ⟨p1, p2, p3⟩ := w6 k hk
  obtain ⟨hL, hB, hO, hH, hS, hT, hK, hC, hW, hP, hR, hU⟩ := id h
  have hI : Inv x w := inv_w h (fxw_refl x) w1
  have hIw := hI
  obtain ⟨hL2, hB2, hO2, hH2, hS2, hT2, -⟩ := hI
  have t62 := hT.2.2.2.2.2.1.2
  have b42 := hB.2.2.2.1.2
  have o62 := hO.2.2.2.2.2.1.2
  obtain ⟨t1, t2, t3, t4, t5, t6, t7, t8⟩ := hT.2.2.2.2.2.2 (st k) p2
  obtain ⟨f1, f2, f3, f4, f5⟩ := fnt_rng h p2 p3
  have r10 : w.2 10 = m.2 10 := w1.2 10 (by omega)
  have r13 : w.2 13 = m.2 13 := w1.2 13 (by omega)
  have r12 : w.2 12 = m.2 12 := w1.2 12 (by omega)
  have r6 : w.2 6 = m.2 6 := w1.2 6 (by omega)
  have q1 : w.1 1 = m.1 1 := w1.1 1 (by omega)
  have q2 : w.1 2 = m.1 2 := w1.1 2 (by omega)
  have h12 : inb (nI k) 12 = true := ib_nI (by omega) (by omega)
  have h40 : inb (nI (st k)) 40 = true := ib_nI (by omega) (by omega)
  obtain ⟨a, ha⟩ : ∃ a, a = fnt m day (st k) := ⟨_, rfl⟩
  obtain ⟨e, he⟩ : ∃ e, e = (m.2 13 (st k)).toNatClampNeg := ⟨_, rfl⟩
  obtain ⟨q, hq⟩ : ∃ q, q = (m.2 10 (st k)).toNatClampNeg := ⟨_, rfl⟩
  have hqn : m.2 10 (st k) = nI q := by rw [hq]; exact cnt_nI t1
  have hqc : (q : Int) = (m.2 10 (st k)).toInt := by rw [hq]; exact cl_ti t1
  have hec : (e : Int) = (m.2 13 (st k)).toInt := by rw [he]; exact cl_ti (by omega)
  have hfk := hfn k hk
  rw [← ha] at hfk f1 f2 f5
  rw [← he] at f2 f3 f4
  have hAL : AL m bo E day (st k) b ↔ Fit m (m.2 3 q) (m.2 4 q) b a e ∧ NoOwn3 m bo E b a e := by
    unfold AL
    rw [← ha, ← he, ← hq]
  have hft : Says (f_Md_fitsAll (nI q) (nI b) (nI a) (nI e) w) (Fit m (m.2 3 q) (m.2 4 q) b a e) := by
    have := fitsAll_says hL2 hB2 hO2 (k := q) (p := b) (a := a) (b := e) (by rw [q2]; omega) (by rw [q1]; exact hb) f2 f3
    obtain ⟨aa, cc, rfl⟩ := fmw_eq w1
    exact this
  -- the nights of those who are there
  have hloop95 : Says (loop (fun z => Md_isTry_l95 (nI k) (nI b) (nI (st k)) w z) (0 : Int32)) (∀ j, j < k → c j = b → ¬ SHr m (st j) (st k)) := by
    rw [← nI_0]
    have hP : ∀ j, j < k → ((c j = b ∧ SHr m (st j) (st k)) → Md_isTry_l95 (nI k) (nI b) (nI (st k)) w (nI j) = some (.inr 0)) ∧ (¬ (c j = b ∧ SHr m (st j) (st k)) → Md_isTry_l95 (nI k) (nI b) (nI (st k)) w (nI j) = some (.inl (nI (j + 1)))) := by
      intro j hj
      obtain ⟨s1, s2, s3⟩ := w6 j (by omega)
      obtain ⟨g1, g2, g3, g4, g5⟩ := fnt_rng h s2 s3
      obtain ⟨-, -, -, -, -, y6, y7, y8⟩ := hT.2.2.2.2.2.2 (st j) s2
      have h12j : inb (nI j) 12 = true := ib_nI (by omega) (by omega)
      have h40j : inb (nI (st j)) 40 = true := ib_nI (by omega) (by omega)
      obtain ⟨z1, z2⟩ := hc j hj
      have g6 := cl_ti (x := m.2 13 (st j)) (by omega)
      unfold Md_isTry_l95
      rw [if_neg (nI_ge hj (by omega)), chk_t h12j, bnd_eq, nI_clamp (n := j) (by omega), z1]
      by_cases c1 : c j = b
      · rw [if_pos (by rw [c1] : nI (c j) = nI b), hfn j (by omega), Option.bind_some, hfk, chk_t h40, bnd_eq, nI_clamp (n := st k) (by omega), r13, f4]
        by_cases c2 : nI e ≤ nI (fnt m day (st j))
        · rw [if_pos c2, bnd_eq, nI_1]
          rw [nI_leI (by omega) (by omega)] at c2
          refine ⟨fun z => ?_, fun _ => rfl⟩
          have z3 := z.2.1
          exfalso
          by_cases y : (m.2 12 (st j)).toInt < (day : Int)
          · rw [if_pos y] at g5; omega
          · rw [if_neg y] at g5; omega
        · rw [if_neg c2, Option.bind_some]
          simp only [chk_t h12j, bnd_eq, s1, chk_t h40j, nI_clamp (show st j < 2 ^ 31 by omega), nI_1]
          rw [nI_leI (by omega) (by omega)] at c2
          rw [g4]
          by_cases c3 : nI (m.2 13 (st j)).toNatClampNeg ≤ nI a
          · rw [if_pos c3]
            rw [nI_leI (by omega) (by omega)] at c3
            refine ⟨fun z => ?_, fun _ => rfl⟩
            have z3 := z.2.2
            exfalso
            by_cases y : (m.2 12 (st k)).toInt < (day : Int)
            · rw [if_pos y] at f5; omega
            · rw [if_neg y] at f5; omega
          · rw [if_neg c3]
            rw [nI_leI (by omega) (by omega)] at c3
            refine ⟨fun _ => rfl, fun z => absurd ⟨c1, ?_, ?_⟩ z⟩
            · by_cases y : (m.2 12 (st j)).toInt < (day : Int)
              · rw [if_pos y] at g5; omega
              · rw [if_neg y] at g5; omega
            · by_cases y : (m.2 12 (st k)).toInt < (day : Int)
              · rw [if_pos y] at f5; omega
              · rw [if_neg y] at f5; omega
      · rw [if_neg (fun z => c1 ((nI_eq (by omega) (by omega)).mp z)), bnd_eq, nI_1]
        exact ⟨fun z => absurd z.1 c1, fun _ => rfl⟩
    rcases loop_first (f := fun z => Md_isTry_l95 (nI k) (nI b) (nI (st k)) w z) (fun j => c j = b ∧ SHr m (st j) (st k)) (fun _ => (0 : Int32)) 1 k (by
        show Md_isTry_l95 (nI k) (nI b) (nI (st k)) w (nI k) = _
        unfold Md_isTry_l95
        rw [if_pos (Int32.le_refl _)]
        rfl) k 0 (by omega) (fun j _ hj z => (hP j hj).2 z) (fun j _ hj z => (hP j hj).1 z) with ⟨z1, z2⟩ | ⟨j, z1, z2, z3, z4, z5⟩
    · exact ⟨fun _ => z2, fun z => absurd (fun j hj y1 y2 => z1 j (Nat.zero_le j) hj ⟨y1, y2⟩) z⟩
    · exact ⟨fun z => absurd z3.2 (z j z2 z3.1), fun _ => z5⟩
  obtain ⟨v95, hv95⟩ : ∃ v, loop (fun z => Md_isTry_l95 (nI k) (nI b) (nI (st k)) w z) (0 : Int32) = some v := by
    by_cases z : ∀ j, j < k → c j = b → ¬ SHr m (st j) (st k)
    · exact ⟨1, hloop95.1 z⟩
    · exact ⟨0, hloop95.2 z⟩
  have hown : ∀ d, a ≤ d → d < e → ((∃ k' : Nat, (k' : Int) < (m.1 2).toInt ∧ (m.2 6 k').toInt = (b : Int) ∧ ¬ Aw3 m bo E k' d) → Md_isTry_l41 (nI k) (nI b) (nI (st k)) w (nI d) = some (.inr 0)) ∧ ((¬ ∃ k' : Nat, (k' : Int) < (m.1 2).toInt ∧ (m.2 6 k').toInt = (b : Int) ∧ ¬ Aw3 m bo E k' d) → Md_isTry_l41 (nI k) (nI b) (nI (st k)) w (nI d) = some (.inl (nI (d + 1)))) := by
    intro d d1 d2
    have hat : ((∀ k' : Nat, (k' : Int) < (m.1 2).toInt → ¬ ((m.2 6 k').toInt = (b : Int) ∧ ¬ Aw m (nI k') d)) ∧ f_Md_atHome (nI b) (nI d) w = some (-1)) ∨ ∃ k' : Nat, (k' : Int) < (m.1 2).toInt ∧ (m.2 6 k').toInt = (b : Int) ∧ ¬ Aw m (nI k') d ∧ f_Md_atHome (nI b) (nI d) w = some (nI k') := by
      have := atHome_eq hO2 hS2 (p := b) (d := d) (by omega) (by omega)
      obtain ⟨aa, cc, rfl⟩ := fmw_eq w1
      exact this
    have h30 : inb (nI bo) 30 = true := ib_nI (by omega) (by omega)
    unfold Md_isTry_l41
    rw [chk_t h40, bnd_eq, nI_clamp (n := st k) (by omega), r13, f4, if_neg (nI_ge d2 (by omega))]
    rcases hat with ⟨y1, y2⟩ | ⟨k', y1, y2, y3, y4⟩
    · rw [y2, Option.bind_some, if_neg (by decide : ¬ (0 : Int32) ≤ -1), w3, chk_t h30, bnd_eq, nI_clamp (n := bo) (by omega), r6, w4]
      by_cases c1 : m.2 6 bo = nI b
      · have hbi : (m.2 6 bo).toInt = (b : Int) := by rw [c1, nI_toInt (by omega)]
        rw [if_pos c1]
        by_cases c2 : nI E ≤ nI d
        · rw [if_pos c2, bnd_eq, nI_1]
          rw [nI_leI (by omega) (by omega)] at c2
          refine ⟨fun ⟨k', z1, z2, z3⟩ => absurd ⟨Classical.byContradiction fun z => y1 k' z1 ⟨z2, z⟩, fun z => by omega⟩ z3, fun _ => rfl⟩
        · rw [if_neg c2]
          rw [nI_leI (by omega) (by omega)] at c2
          exact ⟨fun _ => rfl, fun z => absurd ⟨bo, hbo, hbi, fun z2 => z2.2 ⟨rfl, by omega⟩⟩ z⟩
      · rw [if_neg c1, bnd_eq, nI_1]
        refine ⟨fun ⟨k', z1, z2, z3⟩ => absurd ⟨Classical.byContradiction fun z => y1 k' z1 ⟨z2, z⟩, fun z => ?_⟩ z3, fun _ => rfl⟩
        rw [z.1] at z2
        exact c1 ((fa_eq _ _).mpr (by rw [z2, nI_toInt (by omega)]))
    · rw [y4, Option.bind_some, if_pos (nI_pos' (by omega))]
      exact ⟨fun _ => rfl, fun z => absurd ⟨k', y1, y2, fun z2 => y3 z2.1⟩ z⟩
  have hloop41 : (NoOwn3 m bo E b a e → loop (fun z => Md_isTry_l41 (nI k) (nI b) (nI (st k)) w z) (nI a) = some v95) ∧ (¬ NoOwn3 m bo E b a e → loop (fun z => Md_isTry_l41 (nI k) (nI b) (nI (st k)) w z) (nI a) = some 0) := by
    rcases loop_first (f := fun z => Md_isTry_l41 (nI k) (nI b) (nI (st k)) w z) (fun d => ∃ k' : Nat, (k' : Int) < (m.1 2).toInt ∧ (m.2 6 k').toInt = (b : Int) ∧ ¬ Aw3 m bo E k' d) (fun _ => (0 : Int32)) v95 e (by
        show Md_isTry_l41 (nI k) (nI b) (nI (st k)) w (nI e) = _
        unfold Md_isTry_l41
        rw [chk_t h40, bnd_eq, nI_clamp (n := st k) (by omega), r13, f4, if_pos (Int32.le_refl _), hv95]
        rfl) (e - a) a (by omega) (fun d z1 z2 z => (hown d z1 z2).2 z) (fun d z1 z2 z => (hown d z1 z2).1 z) with ⟨z1, z2⟩ | ⟨d, z1, z2, z3, z4, z5⟩
    · exact ⟨fun _ => z2, fun z => absurd (fun ⟨k', y1, y2, d, y3, y4, y5⟩ => z1 d y3 y4 ⟨k', y1, y2, y5⟩) z⟩
    · obtain ⟨k', y1, y2, y3⟩ := z3
      exact ⟨fun z => absurd ⟨k', y1, y2, d, z1, z2, y3⟩ z, fun _ => z5⟩
  unfold f_Md_isTry
  rw [chk_t h12, bnd_eq, nI_clamp (n := k) (by omega), p1, chk_t h40, bnd_eq, nI_clamp (n := st k) (by omega), r10, hqn, hfk, Option.bind_some, chk_t h40, bnd_eq, r13, f4, Option.bind_some]
  by_cases c1 : Fit m (m.2 3 q) (m.2 4 q) b a e
  · rw [hft.1 c1, Option.bind_some, if10]
    by_cases c2 : NoOwn3 m bo E b a e
    · rw [hloop41.1 c2, ← hv95]
      exact hloop95.iff ⟨fun z => ⟨hAL.mpr ⟨c1, c2⟩, z⟩, fun z => z.2⟩
    · rw [hloop41.2 c2]
      exact ⟨fun z => absurd (hAL.mp z.1).2 c2, fun _ => rfl⟩
  · rw [hft.2 c1, Option.bind_some, if00]
    exact ⟨fun z => absurd (hAL.mp z.1).1 c1, fun _ => rfl⟩
theorem wkm_of {x m w : MS} (h : Inv x m) {day bo E n : Nat} {st : Nat → Nat} (hw : WB m day bo E n st w) (hday : day < 400) (hbo : (bo : Int) < (m.1 2).toInt) (hE : E ≤ 400) (h5 : w.1 5 = nI n) : WKm w n (m.1 1).toNatClampNeg (fun k => (m.2 11 (st k)).toNatClampNeg) (fun k b => AL m bo E day (st k) b) (fun j k => SHr m (st j) (st k)) := by
  obtain ⟨w1, w2, w3, w4, w5, w6⟩ := id hw
  obtain ⟨hL, hB, hO, hH, hS, hT, hK, hC, hW, hP, hR, hU⟩ := id h
  have t62 := hT.2.2.2.2.2.1.2
  have b42 := hB.2.2.2.1.2
  have hbc := cl_ti hB.2.2.2.1.1
  refine ⟨h5, (w1.1 1 (by omega)).trans (cnt_nI hB.2.2.2.1.1), fun k hk => ?_, fun u c k b hu hk hb hc => ?_⟩
  · obtain ⟨p1, p2, p3⟩ := w6 k hk
    obtain ⟨-, -, -, t4, -⟩ := hT.2.2.2.2.2.2 (st k) p2
    rw [p1, nI_toInt (by omega), nI_clamp (by omega), w1.2 11 (by omega)]
    exact ⟨by omega, by omega, cnt_nI t4⟩
  · have hu2 : WB m day bo E n st u := by
      refine ⟨⟨fun j hj => (hu.1 j (by omega) (by omega)).trans (w1.1 j hj), fun j hj => (hu.2 j (by omega) (by omega)).trans (w1.2 j hj)⟩, (hu.1 8 (by omega) (by omega)).trans w2, (hu.1 9 (by omega) (by omega)).trans w3, (hu.1 10 (by omega) (by omega)).trans w4, w5, fun k hk => ?_⟩
      rw [hu.2 14 (by omega) (by omega)]
      exact w6 k hk
    exact try_says h hu2 hday hbo hE hk (by omega) (fun j hj => ⟨(hc j hj).1, by have := (hc j hj).2; omega⟩)
