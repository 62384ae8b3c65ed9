-- ===== the next token =====
theorem tok {x m : MS} {N : Nat} (hT : TP x m N) {a : Nat} (ha : a ≤ N) (hx : x.1 23 = nI a) (hm : m.1 20 = nI a) : ∃ (x' m' : MS) (k : Nat), f_Reader_comeToNext x = some x' ∧ f_Md_nextToken m = some m' ∧ TX x x' ∧ TM m m' ∧ TS N x' m' k := by
  obtain ⟨h18, h19, hN, h37, hbt⟩ := hT
  obtain ⟨f, hfm⟩ : ∃ f : Nat → Nat, ∀ k, m.2 29 k = nI (f k) ∧ f k < 256 := by
    refine ⟨fun k => (m.2 29 k).toNatClampNeg, fun k => ?_⟩
    obtain ⟨c, c1, c2⟩ := hbt k
    show m.2 29 k = nI (m.2 29 k).toNatClampNeg ∧ (m.2 29 k).toNatClampNeg < 256
    rw [c2, nI_clamp (by omega)]
    exact ⟨rfl, c1⟩
  have hfx : ∀ k, x.2 37 k = nI (f k) ∧ f k < 256 := fun k => by rw [h37]; exact hfm k
  -- spaces
  obtain ⟨j, j1, j2, j3⟩ := least (P := fun j => N ≤ a + j ∨ ¬ f (a + j) = 32) (N - a) (Or.inl (by omega))
  obtain ⟨b, hb⟩ : ∃ b, b = a + j := ⟨_, rfl⟩
  have hbN : b ≤ N := by omega
  have hsp : ∀ i, i < j → a + i < N ∧ f (a + i) = 32 := fun i hi => by
    have := j3 i hi
    exact ⟨Classical.byContradiction fun q => this (Or.inl (by omega)), Classical.byContradiction fun q => this (Or.inr q)⟩
  have hj2 : N ≤ b ∨ ¬ f b = 32 := by rw [hb]; exact j2
  have hcx : f_Reader_comeToNext x = Reader_comeToNext_j44 (pf x 23 (nI b)) := by
    unfold f_Reader_comeToNext
    have h0 : x = (fun i : Nat => pf x 23 (nI (a + i))) 0 := by
      show x = pf x 23 (nI a)
      rw [pf_same hx]
    conv => lhs; rw [h0]
    rw [loop_to (f := fun z => Reader_comeToNext_l0 z) (fun i : Nat => pf x 23 (nI (a + i))) j (fun i hi => by
      show Reader_comeToNext_l0 (pf x 23 (nI (a + i))) = some (.inl (pf x 23 (nI (a + (i + 1)))))
      obtain ⟨q1, q2⟩ := hsp i hi
      have e18 : (pf x 23 (nI (a + i))).1 18 = nI N := h18
      have e23 : (pf x 23 (nI (a + i))).1 23 = nI (a + i) := pf_at _ _ _
      have e37 : (pf x 23 (nI (a + i))).2 37 (a + i) = 32 := by
        show x.2 37 (a + i) = 32
        rw [(hfx (a + i)).1, q2]
        rfl
      unfold Reader_comeToNext_l0
      rw [e18, e23, if_neg (nI_ge q1 (by omega)), chk_t (ib_nI (by omega) (by omega)), bnd_eq, nI_clamp (n := a + i) (by omega), e37, if_pos rfl, bnd_eq, nI_1, pf_pf]
      rfl) j (Nat.le_refl j)]
    refine loop_xit ?_
    show Reader_comeToNext_l0 (pf x 23 (nI (a + j))) = _
    rw [← hb]
    have e18 : (pf x 23 (nI b)).1 18 = nI N := h18
    have e23 : (pf x 23 (nI b)).1 23 = nI b := pf_at _ _ _
    unfold Reader_comeToNext_l0
    rw [e18, e23]
    by_cases c : N ≤ b
    · rw [if_pos (nI_le c (by omega))]
    · have ne : ¬ (pf x 23 (nI b)).2 37 b = 32 := fun q => by
        have q : x.2 37 b = 32 := q
        rw [(hfx b).1] at q
        exact (hj2.resolve_left c) ((nI_eq (a := f b) (b := 32) (by have := (hfx b).2; omega) (by omega)).mp q)
      rw [if_neg (nI_ge (by omega) (by omega)), chk_t (ib_nI (by omega) (by omega)), bnd_eq, nI_clamp (n := b) (by omega), if_neg ne]
  obtain ⟨M, hM⟩ : ∃ M, M = pf (pf m 20 (nI b)) 21 (nI b) := ⟨_, rfl⟩
  have hcm : f_Md_nextToken m = (f_Md_see (nI b) M).bind fun v3 => if 0 ≤ v3 then ((f_Md_isDigit v3).bind fun v4 => if v4 = 0 then ((f_Md_isLetter v3).bind fun v5 => if v5 = 0 then ((f_Md_signOf v3).bind fun v6 => some (pf (pf M 22 v6) 20 (nI (b + 1)))) else (loop (fun z => Md_nextToken_l141 z.1 z.2) ((0 : Int32), M))) else (loop (fun z => Md_nextToken_l72 z) (pf (pf M 22 4) 23 0))) else (some (pf M 22 0)) := by
    unfold f_Md_nextToken
    have h0 : m = (fun i : Nat => pf m 20 (nI (a + i))) 0 := by
      show m = pf m 20 (nI a)
      rw [pf_same hm]
    conv => lhs; rw [h0]
    rw [loop_to (f := fun z => Md_nextToken_l0 z) (fun i : Nat => pf m 20 (nI (a + i))) j (fun i hi => by
      show Md_nextToken_l0 (pf m 20 (nI (a + i))) = some (.inl (pf m 20 (nI (a + (i + 1)))))
      obtain ⟨q1, q2⟩ := hsp i hi
      have e19 : (pf m 20 (nI (a + i))).1 19 = nI N := h19
      have e20 : (pf m 20 (nI (a + i))).1 20 = nI (a + i) := pf_at _ _ _
      have e29 : (pf m 20 (nI (a + i))).2 29 (a + i) = 32 := by
        show m.2 29 (a + i) = 32
        rw [(hfm (a + i)).1, q2]
        rfl
      unfold Md_nextToken_l0
      rw [e20, see_lt e19 hN q1, e29, Option.bind_some, if_pos rfl, bnd_eq, nI_1, pf_pf]
      rfl) j (Nat.le_refl j)]
    refine loop_xit ?_
    show Md_nextToken_l0 (pf m 20 (nI (a + j))) = _
    rw [← hb]
    have e19 : (pf m 20 (nI b)).1 19 = nI N := h19
    have e20 : (pf m 20 (nI b)).1 20 = nI b := pf_at _ _ _
    have e20M : M.1 20 = nI b := by rw [hM]; exact (pf_ne _ _ (by omega)).trans (pf_at _ _ _)
    have hsee : ∃ v, f_Md_see (nI b) (pf m 20 (nI b)) = some v ∧ ¬ v = 32 := by
      by_cases c : N ≤ b
      · exact ⟨-1, see_ge e19 c (by omega), by decide⟩
      · refine ⟨_, see_lt e19 hN (by omega), fun q => ?_⟩
        have q : m.2 29 b = 32 := q
        rw [(hfm b).1] at q
        exact (hj2.resolve_left c) ((nI_eq (a := f b) (b := 32) (by have := (hfm b).2; omega) (by omega)).mp q)
    obtain ⟨v, v1, v2⟩ := hsee
    have e20c : ∀ v6, (pf M 22 v6).1 20 = nI b := fun v6 => (pf_ne _ _ (by omega)).trans e20M
    unfold Md_nextToken_l0
    rw [e20, v1, Option.bind_some, if_neg v2, bnd_eq, ← hM, e20M]
    simp only [bnd_eq, e20c, nI_1]
  rw [hcx, hcm]
  obtain ⟨S, hS⟩ : ∃ S, S = pf (pf x 23 (nI b)) 22 (nI b) := ⟨_, rfl⟩
  have S18 : S.1 18 = nI N := by rw [hS]; exact h18
  have S22 : S.1 22 = nI b := by rw [hS]; exact pf_at _ _ _
  have S23 : S.1 23 = nI b := by rw [hS]; exact (pf_ne _ _ (by omega)).trans (pf_at _ _ _)
  have S37 : ∀ k, S.2 37 k = nI (f k) ∧ f k < 256 := fun k => by rw [hS]; exact hfx k
  have M19 : M.1 19 = nI N := by rw [hM]; exact h19
  have M20 : M.1 20 = nI b := by rw [hM]; exact (pf_ne _ _ (by omega)).trans (pf_at _ _ _)
  have M21 : M.1 21 = nI b := by rw [hM]; exact pf_at _ _ _
  have M29 : ∀ k, M.2 29 k = nI (f k) ∧ f k < 256 := fun k => by rw [hM]; exact hfm k
  have TXS : TX x S := by rw [hS]; exact tx_pf (tx_pf ⟨fun _ _ => rfl, rfl⟩ (by omega)) (by omega)
  have TMM : TM m M := by rw [hM]; exact tm_pf (tm_pf ⟨fun _ _ => rfl, rfl⟩ (by omega)) (by omega)
  unfold Reader_comeToNext_j44
  rw [bnd_eq, show (pf x 23 (nI b)).1 23 = nI b from pf_at _ _ _, ← hS, S23, S18]
  by_cases c : N ≤ b
  · rw [if_neg (nI_nlt c (by omega)), bnd_eq, see_ge M19 c (by omega), Option.bind_some, if_neg (by decide)]
    refine ⟨_, _, 0, rfl, rfl, tx_pf TXS (by omega), tm_pf TMM (by omega), ?_, ⟨b, hbN, ?_, ?_⟩, by omega, ?_, ?_, fun q => by omega⟩
    · exact (pf_ne _ _ (by omega)).trans (S22.trans (((pf_ne _ _ (by omega)).trans M21).symm))
    · exact (pf_ne _ _ (by omega)).trans M20
    · exact (pf_ne _ _ (by omega)).trans S23
    · exact (pf_at _ _ _).trans nI_0.symm
    · exact pf_at _ _ _
  · obtain ⟨f1, f2⟩ := S37 b
    have hseeM : f_Md_see (nI b) M = some (nI (f b)) := (see_lt M19 hN (by omega)).trans (congrArg some (M29 b).1)
    rw [if_pos (nI_lt (by omega) (by omega)), chk_t (ib_nI (by omega) (by omega)), bnd_eq, nI_clamp (n := b) (by omega), f1, hseeM, Option.bind_some, if_pos (nI_pos' (by omega)), (dig_ok _ f2).1, (dig_ok _ f2).2, Option.bind_some, Option.bind_some]
    by_cases cd : isD (f b) = true
    · rw [if_pos cd, if10, if10]
      obtain ⟨L, l1, l2, l3⟩ := least (P := fun i => N ≤ b + i ∨ isD (f (b + i)) = false) (N - b) (Or.inl (by omega))
      have hd : ∀ i, i < L → isD (f (b + i)) = true := fun i hi => by
        cases q : isD (f (b + i)) with
        | true => rfl
        | false => exact absurd (Or.inr q) (l3 i hi)
      have hrv := rvn_lt hd
      unfold f_Reader_comeToNumber
      rw [bnd_eq, bnd_eq, num_x (x := pf (pf S 24 48) 25 0) (N := N) (b := b) (L := L) (f := f) S18 hN S23 (pf_at _ _ _) S37 (by omega) hd l2, num_m (m := pf (pf M 22 4) 23 0) (N := N) (b := b) (L := L) (f := f) M19 hN M20 (pf_at _ _ _) M29 (by omega) hd l2, Option.bind_some]
      refine ⟨_, _, 4, rfl, rfl, tx_pf (tx_pf (tx_pf (tx_pf TXS (by omega)) (by omega)) (by omega)) (by omega), tm_pf (tm_pf (tm_pf (tm_pf TMM (by omega)) (by omega)) (by omega)) (by omega), ?_, ⟨b + L, by omega, ?_, ?_⟩, by omega, ?_, ?_, fun _ => ⟨rvn f b L, hrv, ?_, ?_⟩⟩
      · show S.1 22 = M.1 21
        rw [S22, M21]
      · exact pf_at _ _ _
      · exact pf_at _ _ _
      · rfl
      · rfl
      · rfl
      · rfl
    · rw [if_neg cd, if00, if00, (let_ok _ f2).1, (let_ok _ f2).2, Option.bind_some, Option.bind_some]
      by_cases cl : isL (f b) = true
      · rw [if_pos cl, if10, if10]
        obtain ⟨L, l1, l2, l3⟩ := least (P := fun i => N ≤ b + i ∨ isL (f (b + i)) = false) (N - b) (Or.inl (by omega))
        have hd : ∀ i, i < L → isL (f (b + i)) = true := fun i hi => by
          cases q : isL (f (b + i)) with
          | true => rfl
          | false => exact absurd (Or.inr q) (l3 i hi)
        rw [word_x (x := S) (N := N) (b := b) (L := L) (f := f) S18 hN S23 S22 S37 (by omega) hd l2, word_m (m := M) (N := N) (b := b) (L := L) (f := f) M19 hN M20 M29 (by omega) hd l2]
        have TX2 : ∀ v, TX x (pf (pf S 23 (nI (b + L))) 24 v) := fun v => tx_pf (tx_pf TXS (by omega)) (by omega)
        have TM2 : ∀ v, TM m (pf (pf M 20 (nI (b + L))) 22 v) := fun v => tm_pf (tm_pf TMM (by omega)) (by omega)
        have fin : ∀ (k : Nat), k ≤ 17 → k ≠ 4 → TS N (pf (pf S 23 (nI (b + L))) 24 (kc k)) (pf (pf M 20 (nI (b + L))) 22 (nI k)) k := fun k hk hk4 => by
          refine ⟨?_, ⟨b + L, by omega, ?_, ?_⟩, hk, pf_at _ _ _, pf_at _ _ _, fun q => absurd q hk4⟩
          · show S.1 22 = M.1 21
            rw [S22, M21]
          · exact (pf_ne _ _ (by omega)).trans (pf_at _ _ _)
          · exact (pf_ne _ _ (by omega)).trans (pf_at _ _ _)
        unfold Reader_comeToWord_j83
        by_cases c4 : 4 < L
        · have hw : rwd f b L = -1 := by
            have := w_big (f := f) (b := b) (L - 5) (fun i hi => hd i (by omega))
            rw [show 5 + (L - 5) = L by omega] at this
            exact this
          rw [if_pos c4, if00, bnd_eq, hw, show f_Md_wordOf (-1) = some (nI 17) by decide +kernel, Option.bind_some, Option.bind_some]
          exact ⟨_, _, 17, rfl, rfl, TX2 _, TM2 _, fin 17 (by omega) (by omega)⟩
        · obtain ⟨k, k1, k2, k3, k4⟩ := word_ok (cw f b L)
          rw [if_neg c4, if10, (w_small hd (by omega)).1, k3, Option.bind_some]
          rcases k4 with ⟨q1, q2⟩ | ⟨q1, q2, q3⟩
          · subst q1
            rw [q2, Option.bind_some, if00, bnd_eq, Option.bind_some]
            exact ⟨_, _, 17, rfl, rfl, TX2 _, TM2 _, fin 17 (by omega) (by omega)⟩
          · rw [q2, Option.bind_some, if10, bnd_eq, Option.bind_some, q3]
            exact ⟨_, _, k, rfl, rfl, TX2 _, TM2 _, fin k k1 k2⟩
      · rw [if_neg cl, if00, if00]
        obtain ⟨s1, s2, s3, s4, s5⟩ := sign_ok _ f2
        have e23 : S.1 23 + 1 = nI (b + 1) := by rw [S23, nI_1]
        rw [bnd_eq, nI_1, s1, s2, Option.bind_some, Option.bind_some]
        have TX2 : ∀ v, TX x (pf (pf S 23 (nI (b + 1))) 24 v) := fun v => tx_pf (tx_pf TXS (by omega)) (by omega)
        have TM2 : ∀ v, TM m (pf (pf M 22 v) 20 (nI (b + 1))) := fun v => tm_pf (tm_pf TMM (by omega)) (by omega)
        have fin : TS N (pf (pf S 23 (nI (b + 1))) 24 (kc (sgn (f b)))) (pf (pf M 22 (nI (sgn (f b)))) 20 (nI (b + 1))) (sgn (f b)) := by
          refine ⟨?_, ⟨b + 1, by omega, ?_, ?_⟩, s4, ?_, pf_at _ _ _, fun q => absurd q s5⟩
          · show S.1 22 = M.1 21
            rw [S22, M21]
          · exact pf_at _ _ _
          · exact (pf_ne _ _ (by omega)).trans (pf_at _ _ _)
          · exact (pf_ne _ _ (by omega)).trans (pf_at _ _ _)
        by_cases c17 : sgn (f b) = 17
        · rw [if_pos c17, if00, bnd_eq]
          rw [c17] at fin ⊢
          exact ⟨_, _, 17, rfl, rfl, TX2 _, TM2 _, fin⟩
        · rw [if_neg c17, if10, bnd_eq]
          have hc := s3.resolve_left c17
          rw [← hc] at fin
          exact ⟨_, _, _, rfl, rfl, TX2 _, TM2 _, fin⟩
