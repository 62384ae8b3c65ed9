-- ===== the walk from its start =====
theorem WL_end (m : MS) : WL (pI 0, m) = some (1, m) := by
  refine loop_inr ?_
  show Md_walk_l32 (-1) m = _
  unfold Md_walk_l32
  rw [if_pos m1_neg]
  rfl
/-- how a search has ended, in the class (y) and in the reference (o) -/
def WE (n B : Nat) (x0 m0 y : MS) (o : Option (Int32 × MS)) : Prop := FXd x0 y ∧ ((y.1 9 = nI 50001 ∧ ∃ m', o = some (0, m') ∧ FMd m0 m') ∨ ∃ (t f : Nat) (m' : MS), o = some (1, m') ∧ FMd m0 m' ∧ WD n B 0 (fun _ => 0) t f y m')
theorem walk_eq {x0 m0 : MS} {n B : Nat} {own : Nat → Nat} {al sh : Nat → Nat → Prop} (hX : WKx x0 n B own al sh) (hM : WKm (pf (pf m0 6 (-1)) 7 0) n B own al sh) (hn : n ≤ 12) (hB : B ≤ 10) (hown : ∀ k, k < n → own k < 10) (h8 : x0.1 8 = 13) (h9 : x0.1 9 = 0) (h26 : ∀ b, b < 10 → x0.2 26 b = 0) : ∃ y, f_Walk_search x0 = some y ∧ WE n B x0 (pf (pf m0 6 (-1)) 7 0) y (f_Md_walk m0) := by
  obtain ⟨m2, hm2⟩ : ∃ m2, m2 = pf (pf m0 6 (-1)) 7 0 := ⟨_, rfl⟩
  have e5 : m2.1 5 = nI n := by rw [hm2]; exact hM.1
  have e6 : m2.1 6 = -1 := by rw [hm2]; rfl
  have e7 : m2.1 7 = 0 := by rw [hm2]; rfl
  rw [← hm2] at hM ⊢
  have hD : WD n B 0 (fun _ => 0) 0 13 x0 m2 := ⟨h9.trans nI_0.symm, by omega, e7.trans nI_0.symm, h8, by omega, by rw [e6, if_pos rfl], fun q => absurd rfl q, fun j hj => absurd hj (by omega), fun b hb i hi => by
    rw [h26 b hb, b_0 i hi, decide_eq_false (fun z => absurd z.1 (by omega))]⟩
  have F0 : FXd x0 x0 := ⟨fun _ _ _ => rfl, fun _ _ _ _ => rfl⟩
  have G0 : FMd m2 m2 := ⟨fun _ _ _ => rfl, fun _ _ _ => rfl⟩
  unfold f_Walk_search f_Md_walk
  rw [bnd_eq, bnd_eq, ← hm2]
  by_cases h0 : n = 0
  · subst h0
    have hkp := keep_eq hM hn hB hown G0 (c := fun _ => 0) (fun j hj => absurd hj (by omega))
    rw [show mvn (fun _ => 0) own 0 = 0 from rfl, nI_0] at hkp
    rw [if_pos (by rw [e5, nI_0] : m2.1 5 = 0), hkp, Option.bind_some]
    have hcls : f_Walk_putFrom 14 (0 : Int32) (0 : Int32) x0 = some (pr (pf x0 8 0) 19 (va_cpy (x0.2 23) (x0.2 19) 0 0 0)) := by
      show b_f_Walk_putFrom (f_Walk_putFrom 13) (0 : Int32) (0 : Int32) x0 = _
      unfold b_f_Walk_putFrom
      have e2 : (pf x0 8 0).1 6 = 0 := hX.1.trans nI_0
      rw [hX.1, nI_0, if_neg (by decide : ¬ (0 : Int32) < 0), bnd_eq, e2, chk_t (by decide), bnd_eq]
      rfl
    rw [hcls, Option.bind_some]
    refine ⟨_, rfl, fxd_pr (fxd_pf F0 (Or.inl rfl)) (Or.inl rfl), Or.inr ⟨0, 0, _, rfl, fmd_pr (fmd_pf G0 (Or.inl rfl)) (Or.inr rfl), ?_⟩⟩
    obtain ⟨d1, d2, d3, d4, d5, d6, d7, d8, d9⟩ := hD
    exact ⟨d1, d2, d3, nI_0.symm, by omega, nI_0.symm, fun _ j hj => absurd hj (by omega), fun j hj => absurd hj (by omega), d9⟩
  · rw [if_neg (by
      rw [e5, ← nI_0]
      intro q
      exact h0 ((nI_eq (by omega) (by omega)).mp q) : ¬ m2.1 5 = 0), chk_t (by decide : inb (0 : Int32) 12 = true), bnd_eq]
    have hsim := sim_all hX hM hn hB hown (n - 1) 0 (13 - n) (by omega)
    rw [show 13 - n + (n - 1) + 2 = 14 by omega] at hsim
    obtain ⟨y, k1, k2, k3⟩ := hsim (fun _ => 0) 0 13 x0 m2 F0 G0 hD
    rw [show mvn (fun _ => 0) own 0 = 0 from rfl, nI_0] at k1
    rw [k1, Option.bind_some]
    rw [nI_0] at k3
    refine ⟨y, rfl, k2, ?_⟩
    show (y.1 9 = nI 50001 ∧ ∃ m', WL ((0 : Int32), pa m2 15 0 (-1)) = some (0, m') ∧ FMd m2 m') ∨ ∃ (t f : Nat) (m' : MS), WL ((0 : Int32), pa m2 15 0 (-1)) = some (1, m') ∧ FMd m2 m' ∧ WD n B 0 (fun _ => 0) t f y m'
    rcases k3 with q | ⟨t', f', m', w1, w2, w3⟩
    · exact Or.inl q
    · rw [WL_end] at w1
      exact Or.inr ⟨t', f', m', w1, w2, w3⟩
-- ===== how many stays it makes more =====
def mq (x : MS) (day : Nat) (k : Nat) : Nat := fb_ct (fun j => !decide (x.2 19 j = x.2 20 j) && decide ((x.2 21 j).toInt < (day : Int))) k
theorem mq_s (x : MS) (day k : Nat) : mq x day (k + 1) = mq x day k + (if ¬ x.2 19 k = x.2 20 k ∧ (x.2 21 k).toInt < (day : Int) then 1 else 0) := by
  unfold mq
  rw [fb_ct_succ]
  by_cases e1 : x.2 19 k = x.2 20 k
  · rw [decide_eq_true e1, if_neg (fun q => q.1 e1 : ¬ (¬ x.2 19 k = x.2 20 k ∧ (x.2 21 k).toInt < (day : Int)))]
    rfl
  · by_cases e2 : (x.2 21 k).toInt < (day : Int)
    · rw [decide_eq_false e1, decide_eq_true e2, if_pos (⟨e1, e2⟩ : (¬ x.2 19 k = x.2 20 k ∧ (x.2 21 k).toInt < (day : Int)))]
      rfl
    · rw [decide_eq_false e1, decide_eq_false e2, if_neg (fun q => e2 q.2 : ¬ (¬ x.2 19 k = x.2 20 k ∧ (x.2 21 k).toInt < (day : Int)))]
      rfl
theorem ahead_eq {y m : MS} {n day : Nat} {st : Nat → Nat} (a3 : Int32) (hn : n ≤ 12) (hday : day < 400) (h6 : y.1 6 = nI n) (h5 : m.1 5 = nI n) (hk : ∀ k, k < n → m.2 14 k = nI (st k) ∧ st k < 40 ∧ y.2 19 k = m.2 16 k ∧ y.2 20 k = m.2 11 (st k) ∧ y.2 21 k = m.2 12 (st k)) : f_Walk_movedFromAhead (nI day) y = some (nI (mq y day n)) ∧ loop (fun z => Md_home_l192 (nI day) a3 m z.1 z.2) ((0 : Int32), (0 : Int32)) = loop (fun z => Md_home_l192 (nI day) a3 m z.1 z.2) (nI (mq y day n), nI n) := by
  have hdi : (nI day).toInt = (day : Int) := nI_toInt (by omega)
  have h0 : (((0 : Int32), (0 : Int32)) : Int32 × Int32) = (fun k : Nat => ((nI (mq y day k), nI k) : Int32 × Int32)) 0 := by
    show _ = (nI 0, nI 0)
    rw [nI_0]
  have hmv : ∀ k, k < n → f_Walk_isMoved (nI k) y = some (if y.2 19 k = y.2 20 k then 0 else 1) := fun k hk => by
    unfold f_Walk_isMoved
    rw [chk_t (ib_nI (by omega) (by omega)), bnd_eq, chk_t (ib_nI (by omega) (by omega)), bnd_eq, nI_clamp (n := k) (by omega)]
    by_cases e : y.2 19 k = y.2 20 k
    · rw [if_pos e, if_pos e]
    · rw [if_neg e, if_neg e]
  constructor
  · unfold f_Walk_movedFromAhead
    rw [h0]
    refine loop_up (f := fun z => Walk_movedFromAhead_l4 (nI day) y z.1 z.2) (fun k : Nat => ((nI (mq y day k), nI k) : Int32 × Int32)) n _ (fun k hkn => ?_) ?_
    · show Walk_movedFromAhead_l4 (nI day) y (nI (mq y day k)) (nI k) = some (.inl (nI (mq y day (k + 1)), nI (k + 1)))
      unfold Walk_movedFromAhead_l4
      rw [h6, if_neg (nI_ge hkn (by omega)), hmv k hkn, Option.bind_some, mq_s]
      by_cases e1 : y.2 19 k = y.2 20 k
      · rw [if_pos e1, if00, bnd_eq, nI_1, if_neg (fun q => q.1 e1)]
        rfl
      · rw [if_neg e1, if10, chk_t (ib_nI (by omega) (by omega)), bnd_eq, nI_clamp (n := k) (by omega)]
        by_cases e2 : nI day ≤ y.2 21 k
        · rw [if_pos e2, bnd_eq, nI_1]
          rw [fa_le, hdi] at e2
          rw [if_neg (fun q => by omega)]
          rfl
        · rw [if_neg e2, bnd_eq, bnd_eq, nI_1, nI_1]
          rw [fa_le, hdi] at e2
          rw [if_pos ⟨e1, by omega⟩]
    · show Walk_movedFromAhead_l4 (nI day) y (nI (mq y day n)) (nI n) = _
      unfold Walk_movedFromAhead_l4
      rw [h6, if_pos (Int32.le_refl _)]
      rfl
  · rw [h0]
    refine loop_to (f := fun z => Md_home_l192 (nI day) a3 m z.1 z.2) (fun k : Nat => ((nI (mq y day k), nI k) : Int32 × Int32)) n (fun k hkn => ?_) n (Nat.le_refl n)
    show Md_home_l192 (nI day) a3 m (nI (mq y day k)) (nI k) = some (.inl (nI (mq y day (k + 1)), nI (k + 1)))
    obtain ⟨p1, p2, p3, p4, p5⟩ := hk k hkn
    have e0 : nI (mq y day k) + 0 = nI (mq y day k) := Int32.add_zero _
    unfold Md_home_l192
    rw [h5, if_neg (nI_ge hkn (by omega))]
    simp only [chk_t (ib_nI (show k < 12 by omega) (by omega)), bnd_eq, nI_clamp (show k < 2 ^ 31 by omega), p1, chk_t (ib_nI p2 (by omega)), nI_clamp (show st k < 2 ^ 31 by omega), nI_1, e0]
    rw [mq_s, ← p3, ← p4, ← p5]
    by_cases e1 : y.2 19 k = y.2 20 k
    · rw [if_pos e1, if_neg (fun q => q.1 e1)]
      rfl
    · rw [if_neg e1]
      by_cases e2 : nI day ≤ y.2 21 k
      · rw [if_pos e2]
        rw [fa_le, hdi] at e2
        rw [if_neg (fun q => by omega)]
        rfl
      · rw [if_neg e2]
        rw [fa_le, hdi] at e2
        rw [if_pos ⟨e1, by omega⟩]
theorem mq_mono (x : MS) (day : Nat) {k n : Nat} (h : k ≤ n) : mq x day k ≤ mq x day n := fb_ct_mono _ h
theorem mq_le (x : MS) (day n : Nat) : mq x day n ≤ n := fb_ct_le _ n
