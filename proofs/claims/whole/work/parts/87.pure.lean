-- ===== what begins or is a part =====
theorem tr_val : ∀ q, q < 4 → 1 ≤ q → ∀ v : Int32, -(kc q) = tr (nI q) v := by
  intro q h1 h2 v
  rcases (by omega : q = 1 ∨ q = 2 ∨ q = 3) with e | e | e
  · subst e; rfl
  · subst e; rfl
  · subst e; rfl
theorem tr_op : ∀ q, q < 17 → 10 ≤ q → -(kc q) = tr (nI q) 0 := by decide +kernel
/-- a number or a letter -/
theorem value_adv {N p : Nat} {x0 m0 x m : MS} {σ : List Nat} {kk e T q : Nat} (h : Wt N p x0 m0 (List.replicate kk 18 ++ σ) x m e T q) (hσ : tp σ ≠ 18) (hq : 1 ≤ q ∧ q ≤ 4) {it : Int32} (hit : it = if q = 4 then x.1 25 else -(kc q)) :
    ∃ x1, f_Reader_emit it x = some x1 ∧ ((∃ x', f_Reader_take x1 = some x' ∧ DEAD p x0 m0 x' (RL m)) ∨ ∃ x' m' k', f_Reader_take x1 = some x' ∧ RL m = RL m' ∧ BU N p x0 m0 kk σ x' m' (e + 1) (T + 1) k') := by
  obtain ⟨hc, h31, h27, h19, hce, hri⟩ := h
  obtain ⟨c1, c2, c3, c4, c5, c6, c7, c8, c9⟩ := id hc
  obtain ⟨s1, s2, s5, s6, s7, s8⟩ := id c6
  obtain ⟨r1, r2, r3, r4, r5, r6, r7, r8, r9, r10, r11⟩ := id hri
  have he : e ≤ 60 := by omega
  have hin : f_Md_isIn (m.1 22) (1 : Int32) (4 : Int32) = some 1 := by
    rw [s6, show (1 : Int32) = nI 1 from rfl, show (4 : Int32) = nI 4 from rfl, isin_k (by omega) (by omega) (by omega), if_pos hq]
    rfl
  have hpart : ¬ (q = 4 ∧ ∃ v, 100000 ≤ v ∧ v < 1000000 ∧ m.1 23 = nI v) → f_Md_part m = Md_part_j32 m := by
    intro hbig
    unfold f_Md_part
    rw [hin, Option.bind_some, if10]
    by_cases e4 : q = 4
    · obtain ⟨v, v1, v2, v3⟩ := s8 e4
      have hv : v < 100000 := Classical.byContradiction fun z => hbig ⟨e4, v, by omega, v1, v2⟩
      rw [s6, if_pos (by rw [e4]; rfl : nI q = (4 : Int32)), v2, if_pos (by rw [fa_le, nI_toInt (by omega)]; show (v : Int) ≤ 99999; omega : nI v ≤ (99999 : Int32))]
    · rw [s6, if_neg (fun z => e4 ((nI_eq (a := q) (b := 4) (by omega) (by omega)).mp z) : ¬ nI q = (4 : Int32))]
  obtain ⟨x1, g1, g2, g3, z1, g4, g5⟩ := remit_some he h19 it
  have hx1 : FRx x0 x1 := ⟨fun j hj => (g2 j (by omega)).trans (c1.1 j hj), fun j hj => (g3 j hj).trans (c1.2 j hj)⟩
  by_cases hbig : q = 4 ∧ ∃ v, 100000 ≤ v ∧ v < 1000000 ∧ m.1 23 = nI v
  · -- too large
    obtain ⟨e4, v, v1, v2, v3⟩ := hbig
    subst e4
    obtain ⟨u, u1, u2, u3⟩ := s8 rfl
    have huv : u = v := (nI_eq (by omega) (by omega)).mp (u2.symm.trans v3)
    rw [huv, if_neg (by omega)] at u3
    refine ⟨x1, g1, Or.inl ?_⟩
    obtain ⟨w, hw⟩ := take_large (x := x1) ((g2 20 (by omega)).trans c4) ((g2 24 (by omega)).trans s7) ((g2 25 (by omega)).trans u3)
    refine ⟨_, hw, dead_of (x := pf x1 26 w) (m := m) (m' := m) (frx_pf hx1 (by omega)) g4 g5 ((g2 22 (by omega)).trans s1) (by omega) (by omega) ?_ c2⟩
    refine (RL_part (by omega) (by omega) s6 h31 ?_).trans (j54_f (by omega) (by omega) m)
    unfold f_Md_part
    rw [hin, Option.bind_some, if10, s6, if_pos (show nI 4 = (4 : Int32) from rfl), v3, if_neg (by rw [fa_le, nI_toInt (by omega)]; show ¬ (v : Int) ≤ 99999; omega : ¬ nI v ≤ (99999 : Int32))]
    rfl
  · have hpt := hpart hbig
    by_cases hT : T = 60
    · -- too many
      subst hT
      refine ⟨x1, g1, Or.inl ?_⟩
      refine ⟨_, take_full (x := x1) ((g2 20 (by omega)).trans c4) s5 ((g2 24 (by omega)).trans s7) ((g2 26 (by omega)).trans c7) (fun e4 => ?_), dead_of (x := pf x1 26 (nI 61)) (m := m) (m' := m) (frx_pf hx1 (by omega)) g4 g5 ((g2 22 (by omega)).trans s1) (by omega) (by omega) ?_ c2⟩
      · obtain ⟨u, u1, u2, u3⟩ := s8 e4
        have hu : u < 100000 := Classical.byContradiction fun z => hbig ⟨e4, u, by omega, u1, u2⟩
        rw [if_pos hu] at u3
        rw [(g2 25 (by omega)).trans u3, fa_le, nI_toInt (by omega)]
        show (u : Int) ≤ 99999
        omega
      · refine (RL_part (by omega) (by omega) s6 h31 ?_).trans (j54_f (by omega) (by omega) m)
        rw [hpt]
        unfold Md_part_j32
        rw [many_t c8, Option.bind_some, if10]
        rfl
    · have hT2 : T < 60 := by omega
      have hx1e : x1 = pf (pa x 38 e it) 19 (nI (e + 1)) := by
        have := remit_eq (x := x) (z := e) (by omega) h19 it
        rw [g1] at this
        exact Option.some.inj this
      refine ⟨x1, g1, Or.inr ?_⟩
      obtain ⟨m1, hm1⟩ : ∃ m1, m1 = EMt m (p + e) (nI q) (m.1 23) := ⟨_, rfl⟩
      have htk : tk (nI q) = 0 := by
        unfold tk
        rw [if_pos (by rw [nI_toInt (by omega)]; omega)]
      have hd := dsum_0 (List.replicate kk 18 ++ σ)
      have hri1 : RI m1 p (e + 1) (T + 1) (List.replicate kk 18 ++ σ) 1 := by
        rw [hm1]
        refine ri_emit (M := m) hri rfl r2 r3 r4 (by omega) (by omega) (Or.inl ⟨?_, ?_, fun e4 => ?_⟩) (by omega) ?_ r10 r11
        · rw [nI_toInt (by omega)]; omega
        · rw [nI_toInt (by omega)]; omega
        · have e4 : q = 4 := (nI_eq (a := q) (b := 4) (by omega) (by omega)).mp e4
          obtain ⟨u, u1, u2, u3⟩ := s8 e4
          have hu : u < 100000 := Classical.byContradiction fun z => hbig ⟨e4, u, by omega, u1, u2⟩
          rw [u2, nI_toInt (by omega)]
          omega
        · unfold gr
          rw [htk]
          omega
      have hri2 : RI (pf m1 31 0) p (e + 1) (T + 1) (List.replicate kk 18 ++ σ) 1 := hri1
      obtain ⟨m3, u1, u2, u3, u4, u5⟩ := turned_eq hσ kk (pf m1 31 0) (e + 1) hri2
      have hpt0 : f_Md_part m = some (0, m3) := by
        rw [hpt]
        unfold Md_part_j32 f_Md_partIsThrough
        rw [many_f c8 hT2, Option.bind_some, if00, emit_eq r1 (by omega), Option.bind_some, s6, ← hm1, bnd_eq, u1, Option.bind_some]
      -- the class's state
      have hce1 : CE x1 m1 p (e + 1) := by
        rw [hm1]
        refine ce_em (m := m) rfl (fun i hi => ?_) ?_
        · rw [hx1e]
          show upd (x.2 38) e it i = _
          rw [pk_un (by omega)]
          exact hce i hi
        · rw [hx1e]
          show upd (x.2 38) e it e = _
          rw [pk_us, hit]
          by_cases e4 : q = 4
          · obtain ⟨u, v1, v2, v3⟩ := s8 e4
            have hu : u < 100000 := Classical.byContradiction fun z => hbig ⟨e4, u, by omega, v1, v2⟩
            rw [if_pos hu] at v3
            rw [if_pos e4, v3, v2, e4]
            rfl
          · rw [if_neg e4]
            exact tr_val q (by omega) (by omega) _
      have hcm1 : CM N p x0 m0 x1 m1 T q := by
        have ho : OF p m m1 := by rw [hm1]; exact of_em (of_refl p m) (by omega)
        obtain ⟨d1, d2, d3, d4, d5, d6, d7, d8, d9⟩ := cm_of hc ho
        obtain ⟨w1, ⟨a, w2, w3, w4⟩, w5, w6, w7, w8⟩ := d6
        obtain ⟨y1, y2, y3, y4, y5⟩ := d3
        refine ⟨hx1, d2, ⟨(g2 18 (by omega)).trans y1, y2, y3, (g3 37 (by omega)).trans y4, y5⟩, (g2 20 (by omega)).trans d4, (g2 21 (by omega)).trans d5, ⟨(g2 22 (by omega)).trans w1, ⟨a, w2, w3, (g2 23 (by omega)).trans w4⟩, w5, w6, (g2 24 (by omega)).trans w7, fun z => ?_⟩, (g2 26 (by omega)).trans d7, d8, d9⟩
        rw [g2 25 (by omega)]
        exact w8 z
      have hcm2 : CM N p x0 m0 x1 (pf m1 31 0) T q := cm_m hcm1 (fun j hj => pf_ne _ _ (by omega)) (fun j hj => rfl)
      have hcm3 := cm_of hcm2 u2
      obtain ⟨x', m', k', a1, a2, a3, a4, a5⟩ := adv hcm3 hT2 (fun e4 => by
        obtain ⟨u, v1, v2, v3⟩ := s8 e4
        have hu : u < 100000 := Classical.byContradiction fun z => hbig ⟨e4, u, by omega, v1, v2⟩
        refine ⟨u, hu, ?_⟩
        rw [u2.1 23 (by omega), pf_ne _ _ (by omega), hm1]
        exact (pf_ne _ _ (by omega)).trans v2)
      refine ⟨x', m', k', a1, (RL_part (by omega) (by omega) s6 h31 hpt0).trans a2, a3, ?_, ?_, ?_, ?_, ?_, ri_tm u3 a5⟩
      · rw [a5.1 31 (by omega), u2.1 31 (by omega)]; exact pf_at _ _ _
      · rw [a4.1 27 (by omega), g2 27 (by omega), h27, nsum_rep]
      · rw [a4.1 19 (by omega), hx1e]; exact pf_at _ _ _
      · intro i hi
        rw [a4.2, a5.2, (u5 i hi).1, (u5 i hi).2]
        exact hce1 i hi
      · intro i hi
        rw [a5.2]
        exact u4 i hi
/-- what opens -/
theorem open_adv {N p : Nat} {x0 m0 x m : MS} {st : List Nat} {e T q a : Nat} (h : Wt N p x0 m0 st x m e T q) (hq : (q = 8 ∧ a = 8) ∨ (q = 11 ∧ a = 18) ∨ (q = 5 ∧ a = 5 ∧ rk (tp st) = 0 ∧ tp st ≠ 18)) :
    ∃ x', f_Reader_openOne x = some x' ∧ (DEAD p x0 m0 x' (RL m) ∨ ∃ m' k', RL m = RL m' ∧ Wt N p x0 m0 (a :: st) x' m' e (T + 1) k' ∧ nsum st < 10) := by
  obtain ⟨hc, h31, h27, h19, hce, hri⟩ := h
  obtain ⟨c1, c2, c3, c4, c5, c6, c7, c8, c9⟩ := id hc
  obtain ⟨s1, s2, s5, s6, s7, s8⟩ := id c6
  obtain ⟨r1, r2, r3, r4, r5, r6, r7, r8, r9, r10, r11⟩ := id hri
  have htop := top_eq hri
  have hlt := tp_lt hri
  have hns : nst a = 1 := by
    rcases hq with ⟨-, z⟩ | ⟨-, z⟩ | ⟨-, z, -⟩
    · rw [z]; decide
    · rw [z]; decide
    · rw [z]; decide
  have hdv : dv a = 0 := by
    rcases hq with ⟨-, z⟩ | ⟨-, z⟩ | ⟨-, z, -⟩
    · rw [z]; decide
    · rw [z]; decide
    · rw [z]; decide
  have hpart : f_Md_part m = Md_part_j116 m := by
    unfold f_Md_part
    rw [s6, show (1 : Int32) = nI 1 from rfl, show (4 : Int32) = nI 4 from rfl, isin_k s5 (by omega) (by omega), if_neg (by omega : ¬ (1 ≤ q ∧ q ≤ 4)), Option.bind_some, if00, htop, Option.bind_some, rank_ok _ hlt, Option.bind_some]
    have hj : ∀ t0 : Int32, (q = 5 → ¬ t0 = 0) → Md_part_j83 t0 m = Md_part_j116 m := fun t0 ht => by
      unfold Md_part_j83
      rw [s6]
      by_cases e8 : q = 8
      · rw [if_pos (by rw [e8]; rfl : nI q = (8 : Int32))]
      · rw [if_neg (fun z => e8 ((nI_eq (a := q) (b := 8) (by omega) (by omega)).mp z) : ¬ nI q = (8 : Int32))]
        by_cases e11 : q = 11
        · rw [if_pos (by rw [e11]; rfl : nI q = (11 : Int32))]
        · have e5 : q = 5 := by
            rcases hq with ⟨z, -⟩ | ⟨z, -⟩ | ⟨z, -⟩
            · exact absurd z e8
            · exact absurd z e11
            · exact z
          rw [if_neg (fun z => e11 ((nI_eq (a := q) (b := 11) (by omega) (by omega)).mp z) : ¬ nI q = (11 : Int32)), if_pos (by rw [e5]; rfl : nI q = (5 : Int32)), if_neg (ht e5)]
    by_cases e5 : q = 5
    · have hb : rk (tp st) = 0 ∧ tp st ≠ 18 := by
        rcases hq with ⟨z, -⟩ | ⟨z, -⟩ | ⟨-, -, z⟩
        · omega
        · omega
        · exact z
      rw [hb.1, if_pos nI_0, Option.bind_some, if_neg (fun z => hb.2 ((nI_eq (a := tp st) (b := 18) (by omega) (by omega)).mp z) : ¬ nI (tp st) = (18 : Int32))]
      exact hj 1 (fun _ => by decide)
    · by_cases hr : nI (rk (tp st)) = 0
      · rw [if_pos hr, Option.bind_some]
        by_cases h18 : nI (tp st) = (18 : Int32)
        · rw [if_pos h18]
          unfold Md_part_j82
          exact hj 0 (fun z => absurd z e5)
        · rw [if_neg h18]
          exact hj 1 (fun z => absurd z e5)
      · rw [if_neg hr]
        unfold Md_part_j82
        exact hj 0 (fun z => absurd z e5)
  have hq0 : 0 < q := by omega
  -- the class
  obtain ⟨x2, hx2⟩ : ∃ x2, x2 = pf x 27 (nI (nsum st + 1)) := ⟨_, rfl⟩
  have hcm2 : CM N p x0 m0 x2 m T q := by
    rw [hx2]
    exact ⟨frx_pf c1 (by omega), c2, c3, c4, c5, c6, c7, c8, c9⟩
  by_cases hn : nsum st = 10
  · -- too deep
    have hcls : f_Reader_openOne x = some (pf (pf (pf x 20 (nI 3)) 21 (x.1 22)) 27 (nI (nsum st) + 1)) := by
      unfold f_Reader_openOne
      rw [h27, if_neg (by rw [hn]; decide : ¬ nI (nsum st) < (10 : Int32)), show (3 : Int32) = nI 3 from rfl, refuse_eq c4, Option.bind_some]
      unfold Reader_openOne_j14
      have e27 : (pf (pf x 20 (nI 3)) 21 (x.1 22)).1 27 = nI (nsum st) := h27
      rw [bnd_eq, e27, dead_take (show ¬ (pf (pf (pf x 20 (nI 3)) 21 (x.1 22)) 27 (nI (nsum st) + 1)).1 20 = 0 from nI_ne0 (n := 3) (by omega) (by omega)), Option.bind_some]
    refine ⟨_, hcls, Or.inl (dead_27 (dead_of (m := m) (m' := m) c1 (by omega : e ≤ 60) h19 s1 (by omega) (by omega) ?_ c2) _)⟩
    refine (RL_part hq0 s5 s6 h31 ?_).trans (j54_f (by omega) (by omega) m)
    rw [hpart]
    unfold Md_part_j116
    by_cases hT : T = 60
    · rw [many_t (by rw [c8, hT]), Option.bind_some, if10]
      rfl
    · rw [many_f c8 (by omega), Option.bind_some, if00, r3, hn, if_pos (show nI 10 = (10 : Int32) from rfl)]
      rfl
  · have hn10 : nsum st < 10 := by omega
    have hcls : f_Reader_openOne x = f_Reader_take x2 := by
      unfold f_Reader_openOne Reader_openOne_j14
      rw [h27, if_pos (by rw [fa_lt, nI_toInt (by omega)]; show (nsum st : Int) < 10; omega : nI (nsum st) < (10 : Int32)), bnd_eq, nI_1, ← hx2]
      cases f_Reader_take x2 <;> rfl
    rw [hcls]
    have e19 : x2.1 19 = nI e := by rw [hx2]; exact h19
    by_cases hT : T = 60
    · subst hT
      obtain ⟨x', w1, w2⟩ := dead_full (o := RL m) (m' := m) hcm2 (by omega : e ≤ 60) e19 (by omega) ((RL_part hq0 s5 s6 h31 (by
        rw [hpart]
        unfold Md_part_j116
        rw [many_t c8, Option.bind_some, if10]
        rfl : f_Md_part m = some (nI 3, m))).trans (j54_f (by omega) (by omega) m)) (of_refl p m)
      exact ⟨x', w1, Or.inl w2⟩
    · have hT2 : T < 60 := by omega
      obtain ⟨m2, hm2⟩ : ∃ m2, m2 = pf (pa (pf m 29 (nI (nsum st + 1))) 34 st.length (nI a)) 28 (nI (st.length + 1)) := ⟨_, rfl⟩
      have hpush : ∀ v, f_Md_push v (pf m 29 (nI (nsum st + 1))) = some (pf (pa (pf m 29 (nI (nsum st + 1))) 34 st.length v) 28 (nI (st.length + 1))) := fun v => by
        have e28 : (pf m 29 (nI (nsum st + 1))).1 28 = nI st.length := r2
        unfold f_Md_push
        rw [e28, chk_t (ib_nI (by omega) (by omega)), bnd_eq, bnd_eq, pa_f, e28, nI_1, nI_clamp (by omega)]
      have hp0 : f_Md_part m = some (0, m2) := by
        rw [hpart]
        unfold Md_part_j116
        have e22 : (pf m 29 (nI (nsum st + 1))).1 22 = nI q := s6
        rw [many_f c8 hT2, Option.bind_some, if00, r3, if_neg (fun z => hn ((nI_eq (a := nsum st) (b := 10) (by omega) (by omega)).mp z) : ¬ nI (nsum st) = (10 : Int32)), bnd_eq, nI_1, e22]
        by_cases e11 : q = 11
        · have ea : a = 18 := by
            rcases hq with ⟨z, -⟩ | ⟨-, z⟩ | ⟨z, -⟩
            · exact absurd (z.symm.trans e11) (by decide)
            · exact z
            · exact absurd (z.symm.trans e11) (by decide)
          rw [if_pos (by rw [e11]; rfl : nI q = (11 : Int32)), show (18 : Int32) = nI 18 from rfl, hpush, Option.bind_some, hm2, ea]
        · have ea : a = q := by
            rcases hq with ⟨z, w⟩ | ⟨z, -⟩ | ⟨z, w, -⟩
            · exact w.trans z.symm
            · exact absurd z e11
            · exact w.trans z.symm
          rw [if_neg (fun z => e11 ((nI_eq (a := q) (b := 11) (by omega) (by omega)).mp z) : ¬ nI q = (11 : Int32)), hpush, Option.bind_some, hm2, ea]
      have hcm3 : CM N p x0 m0 x2 m2 T q := by
        rw [hm2]
        refine cm_m hcm2 (fun j hj => ?_) (fun j hj => ?_)
        · exact (pf_ne _ _ (by omega)).trans (pf_ne _ _ (by omega))
        · exact pa_ne _ _ _ hj
      obtain ⟨x', m', k', a1, a2, a3, a4, a5⟩ := adv hcm3 hT2 (fun z => by omega)
      refine ⟨x', a1, Or.inr ⟨m', k', (RL_part hq0 s5 s6 h31 hp0).trans a2, ⟨a3, ?_, ?_, ?_, ?_, ri_tm ?_ a5⟩, hn10⟩⟩
      · rw [a5.1 31 (by omega), hm2]; exact h31
      · rw [a4.1 27 (by omega), hx2]
        show nI (nsum st + 1) = nI (nst a + nsum st)
        rw [hns, Nat.add_comm]
      · rw [a4.1 19 (by omega)]; exact e19
      · exact ce_t (x := x) (m := m) hce (by rw [a4.2, hx2]; rfl) (by rw [a5.2, hm2]; rfl) (by rw [a5.2, hm2]; rfl)
      · have hdp : ∀ i, DP m2 p i = DP m p i := fun i => dp_cong (fun j _ => by rw [hm2]; rfl)
        refine ⟨by rw [hm2]; exact r1, by rw [hm2]; rfl, ?_, ?_, ?_, by omega, r7, fun i hi => ?_, ?_, ?_, fun c hc => ?_⟩
        · rw [hm2]
          show nI (nsum st + 1) = nI (nst a + nsum st)
          rw [hns, Nat.add_comm]
        · rw [hm2]
          show upd (m.2 34) st.length (nI a) st.length = nI a ∧ RS (upd (m.2 34) st.length (nI a)) st
          exact ⟨pk_us, rs_upd (Nat.le_refl _) r4⟩
        · show e + (st.length + 1) ≤ T + 1
          omega
        · rw [hdp, hm2]
          exact r8 i hi
        · rw [hdp, r9]
          show dsum st + 0 = dv a + dsum st + 0
          omega
        · show nst a + nsum st ≤ 10
          omega
        · rcases List.mem_cons.mp hc with z | z
          · omega
          · exact r11 c z
/-- what is no part -/
theorem part_bad {N p : Nat} {x0 m0 x m : MS} {st : List Nat} {e T q : Nat} (h : Wt N p x0 m0 st x m e T q) (hq : ¬ (1 ≤ q ∧ q ≤ 4)) (h8 : q ≠ 8) (h11 : q ≠ 11) (h5 : q = 5 → 0 < rk (tp st) ∨ tp st = 18) : ∃ x', f_Reader_refuse 1 x = some x' ∧ DEAD p x0 m0 x' (RL m) := by
  obtain ⟨hc, h31, h27, h19, hce, hri⟩ := h
  obtain ⟨c1, c2, c3, c4, c5, c6, c7, c8, c9⟩ := id hc
  obtain ⟨s1, s2, s5, s6, s7, s8⟩ := id c6
  have he : e ≤ 60 := by
    have := hri.2.2.2.2.1
    omega
  have hRL : RL m = some (nI 1, m) := by
    by_cases q0 : q = 0
    · subst q0
      exact RL_want0 s6 h31
    · refine (RL_part (by omega) s5 s6 h31 ?_).trans (j54_f (by omega) (by omega) m)
      have htop := top_eq hri
      have hlt := tp_lt hri
      unfold f_Md_part
      rw [s6, show (1 : Int32) = nI 1 from rfl, show (4 : Int32) = nI 4 from rfl, isin_k s5 (by omega) (by omega), if_neg hq, Option.bind_some, if00, htop, Option.bind_some, rank_ok _ hlt, Option.bind_some]
      have hj : ∀ t0 : Int32, (q = 5 → t0 = 0) → Md_part_j83 t0 m = some (nI 1, m) := fun t0 ht => by
        unfold Md_part_j83
        rw [s6, if_neg (fun z => h8 ((nI_eq (a := q) (b := 8) (by omega) (by omega)).mp z) : ¬ nI q = (8 : Int32)), if_neg (fun z => h11 ((nI_eq (a := q) (b := 11) (by omega) (by omega)).mp z) : ¬ nI q = (11 : Int32))]
        by_cases e5 : q = 5
        · rw [if_pos (by rw [e5]; rfl : nI q = (5 : Int32)), if_pos (ht e5)]
          rfl
        · rw [if_neg (fun z => e5 ((nI_eq (a := q) (b := 5) (by omega) (by omega)).mp z) : ¬ nI q = (5 : Int32))]
          rfl
      by_cases hr : nI (rk (tp st)) = 0
      · rw [if_pos hr, Option.bind_some]
        by_cases h18 : nI (tp st) = (18 : Int32)
        · rw [if_pos h18]
          unfold Md_part_j82
          exact hj 0 (fun _ => rfl)
        · rw [if_neg h18]
          refine hj (nI 1) (fun z => ?_)
          rcases h5 z with w | w
          · have : rk (tp st) = 0 := (nI_eq (a := rk (tp st)) (b := 0) (by have := rk_le (tp st); omega) (by omega)).mp (hr.trans nI_0.symm)
            omega
          · exact absurd (by rw [w]; rfl) h18
      · rw [if_neg hr]
        unfold Md_part_j82
        exact hj 0 (fun _ => rfl)
  refine ⟨_, refuse_eq c4 1, ?_⟩
  exact dead_of (m := m) (f := 1) c1 he h19 s1 (by omega) (by omega) hRL c2
