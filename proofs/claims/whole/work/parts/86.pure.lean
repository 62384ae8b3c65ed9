-- ===== what closes an expression =====
/-- what may stand behind a whole expression -/
def NXE (P : List Nat) (q : Nat) : Prop := rk q ≤ 1 ∧ (rk q = 1 → ∃ P1 a P2, P = P1 ++ a :: P2 ∧ (∀ b, b ∈ P1 → 2 ≤ rk b) ∧ rk a = 1)
theorem close_bad {N p : Nat} {x0 m0 x m : MS} {σ P : List Nat} {e T q : Nat} (h : Bh N p x0 m0 σ P x m e T q) (hN : NXE P q) (h0 : rk (tp σ) = 0) (h7 : tp σ ≠ 7) (h9 : q = 9 → tp σ ≠ 8) (h6 : q = 6 → tp σ ≠ 5) (h77 : q = 7 → tp σ ≠ 6) (h00 : q = 0 → tp σ ≠ 0) : ∃ m', RL m = some (nI 1, m') ∧ OF p m m' := by
  obtain ⟨hc, h31, h27, hb⟩ := h
  have hk := hc.2.2.2.2.2.1.2.2.1
  have h22 : m.1 22 = nI q := hc.2.2.2.2.2.1.2.2.2.1
  obtain ⟨m1, t1, t2, t3⟩ := through_eq h0 h7 P.length P m e (Nat.le_refl _) hb
  have hlt : tp σ < 20 := tp_lt (show RI m1 p (e + P.length) T σ 1 from t3.2.2.2.2)
  have h221 : m1.1 22 = nI q := (t2.1 22 (by omega)).trans h22
  by_cases q0 : q = 0
  · subst q0
    refine ⟨m1, ?_, t2⟩
    rw [RL_eq]
    unfold Md_read_l29
    rw [h22, if_pos nI_0, h31, if00, t1, bd2_some, if_neg (fun z => h00 rfl ((nI_eq (a := tp σ) (b := 0) (by omega) (by omega)).mp (z.trans nI_0.symm)) : ¬ nI (tp σ) = 0)]
    rfl
  · by_cases q1 : rk q = 1
    · -- a second comparison
      obtain ⟨P1, a, P2, e1, e2, e3⟩ := hN.2 q1
      have hop := rk_op (a := q) (by omega)
      subst e1
      have hs : rk (tp (a :: P2 ++ σ)) < 2 := by
        show rk a < 2
        omega
      obtain ⟨m2, b1, b2, b3⟩ := reduce_eq (p := p) (x := x) (L := T) (r := 2) (P2 := a :: P2) (σ := σ) (by omega) (by omega) hs P1 m e e2 hb
      have htop : f_Md_top m2 = some (nI a) := top_eq b3.2.2.2.2
      have ha := rk_op (a := a) (by omega)
      have h222 : m2.1 22 = nI q := (b2.1 22 (by omega)).trans h22
      refine ⟨m2, (RL_behind (by omega) hk h22 h31 ?_).trans (j54_f (by omega) (by omega) m2), b2⟩
      unfold f_Md_behind
      rw [h22, show (10 : Int32) = nI 10 from rfl, show (16 : Int32) = nI 16 from rfl, isin_k hk (by omega) (by omega), if_pos hop, Option.bind_some, if10, rank_ok q (by omega), Option.bind_some, if_pos (by rw [q1]; rfl : nI (rk q) = (1 : Int32))]
      unfold Md_behind_j37
      rw [show (2 : Int32) = nI 2 from rfl, b1, Option.bind_some, h222, rank_ok q (by omega), Option.bind_some, if_pos (by rw [q1]; rfl : nI (rk q) = (1 : Int32)), htop, Option.bind_some, rank_ok a (by omega), Option.bind_some, if_pos (by rw [e3]; rfl : nI (rk a) = (1 : Int32))]
      rfl
    · have hr0 : rk q = 0 := by have := hN.1; omega
      have hno : ¬ (10 ≤ q ∧ q ≤ 16) := fun z => by
        unfold rk at hr0
        by_cases c1 : q = 15 ∨ q = 16
        · rw [if_pos c1] at hr0; omega
        · rw [if_neg c1] at hr0
          by_cases c2 : q = 10 ∨ q = 11
          · rw [if_pos c2] at hr0; omega
          · rw [if_neg c2, if_pos (by omega)] at hr0; omega
      by_cases q3 : q = 9 ∨ q = 6 ∨ q = 7
      · refine ⟨m1, (RL_behind (by omega) hk h22 h31 ?_).trans (j54_f (by omega) (by omega) m1), t2⟩
        have hj : Md_behind_j117 m = some (nI 1, m1) := by
          unfold Md_behind_j117
          rw [t1, bd2_some, h221]
          by_cases c9 : q = 9
          · rw [if_pos (by rw [c9]; rfl : nI q = (9 : Int32))]
            unfold Md_behind_j142
            rw [if_neg (fun z => h9 c9 ((nI_eq (a := tp σ) (b := 8) (by omega) (by omega)).mp z) : ¬ nI (tp σ) = (8 : Int32))]
            rfl
          · rw [if_neg (fun z => c9 ((nI_eq (a := q) (b := 9) (by omega) (by omega)).mp z) : ¬ nI q = (9 : Int32))]
            have hne : ¬ nI (tp σ) = nI q - 1 := fun z => by
              rw [show (1 : Int32) = nI 1 from rfl, pk_sub (by omega), nI_eq (by omega) (by omega)] at z
              rcases q3 with w | w | w
              · exact c9 w
              · exact h6 w (by omega)
              · exact h77 w (by omega)
            unfold Md_behind_j142
            rw [if_neg hne]
            rfl
        unfold f_Md_behind
        rw [h22, show (10 : Int32) = nI 10 from rfl, show (16 : Int32) = nI 16 from rfl, isin_k hk (by omega) (by omega), if_neg hno, Option.bind_some, if00]
        by_cases c9 : q = 9
        · rw [if_pos (by rw [c9]; rfl : nI q = (9 : Int32))]
          exact hj
        · rw [if_neg (fun z => c9 ((nI_eq (a := q) (b := 9) (by omega) (by omega)).mp z) : ¬ nI q = (9 : Int32))]
          by_cases c6 : q = 6
          · rw [if_pos (by rw [c6]; rfl : nI q = (6 : Int32))]
            exact hj
          · rw [if_neg (fun z => c6 ((nI_eq (a := q) (b := 6) (by omega) (by omega)).mp z) : ¬ nI q = (6 : Int32)), if_pos (by rw [show q = 7 by omega]; rfl : nI q = (7 : Int32))]
            exact hj
      · refine ⟨m, (RL_behind (by omega) hk h22 h31 ?_).trans (j54_f (by omega) (by omega) m), of_refl p m⟩
        unfold f_Md_behind
        rw [h22, show (10 : Int32) = nI 10 from rfl, show (16 : Int32) = nI 16 from rfl, isin_k hk (by omega) (by omega), if_neg hno, Option.bind_some, if00, if_neg (fun z => q3 (Or.inl ((nI_eq (a := q) (b := 9) (by omega) (by omega)).mp z)) : ¬ nI q = (9 : Int32)), if_neg (fun z => q3 (Or.inr (Or.inl ((nI_eq (a := q) (b := 6) (by omega) (by omega)).mp z))) : ¬ nI q = (6 : Int32)), if_neg (fun z => q3 (Or.inr (Or.inr ((nI_eq (a := q) (b := 7) (by omega) (by omega)).mp z))) : ¬ nI q = (7 : Int32))]
        rfl
/-- then, else -/
theorem close_then {N p : Nat} {x0 m0 x m : MS} {σ P : List Nat} {e T q a : Nat} (h : Bh N p x0 m0 (a :: σ) P x m e T q) (ha : (a = 5 ∧ q = 6) ∨ (a = 6 ∧ q = 7)) :
    (∃ x', f_Reader_take x = some x' ∧ DEAD p x0 m0 x' (RL m)) ∨ ∃ x' m' k', f_Reader_take x = some x' ∧ RL m = RL m' ∧ Wt N p x0 m0 (q :: σ) x' m' (e + P.length) (T + 1) k' := by
  obtain ⟨hc, h31, h27, hb⟩ := h
  have h22 : m.1 22 = nI q := hc.2.2.2.2.2.1.2.2.2.1
  have hrk : rk a = 0 := by
    rcases ha with z | z
    · rw [z.1]; decide
    · rw [z.1]; decide
  obtain ⟨m1, t1, t2, t3⟩ := through_eq (σ := a :: σ) hrk (by show a ≠ 7; omega) P.length P m e (Nat.le_refl _) hb
  have hc1 := cm_of hc t2
  have h221 : m1.1 22 = nI q := (t2.1 22 (by omega)).trans h22
  have c8 : m1.1 30 = nI T := hc1.2.2.2.2.2.2.2.1
  obtain ⟨b1, b2, b3, b4, b5⟩ := id t3
  have b5 : RI m1 p (e + P.length) T (a :: σ) 1 := b5
  have b1 : x.1 19 = nI (e + P.length) := b1
  obtain ⟨r1, r2, r3, r4, r5, r6, r7, r8, r9, r10, r11⟩ := id b5
  have r2 : m1.1 28 = nI (σ.length + 1) := r2
  have r5 : e + P.length + (σ.length + 1) ≤ T := r5
  have hT60 := hc.2.2.2.2.2.2.2.2
  have hbeh : f_Md_behind m = Md_behind_j142 (nI a) (nI a) m1 := by
    unfold f_Md_behind
    rw [h22, show (10 : Int32) = nI 10 from rfl, show (16 : Int32) = nI 16 from rfl, isin_k (by omega) (by omega) (by omega), if_neg (by omega : ¬ (10 ≤ q ∧ q ≤ 16)), Option.bind_some, if00, if_neg (fun z => by have := (nI_eq (a := q) (b := 9) (by omega) (by omega)).mp z; omega : ¬ nI q = (9 : Int32))]
    have hj : Md_behind_j117 m = Md_behind_j142 (nI a) (nI a) m1 := by
      unfold Md_behind_j117
      have t1 : f_Md_through m = some (nI a, m1) := t1
      rw [t1, bd2_some, h221, if_neg (fun z => by have := (nI_eq (a := q) (b := 9) (by omega) (by omega)).mp z; omega : ¬ nI q = (9 : Int32)), show (1 : Int32) = nI 1 from rfl, pk_sub (by omega), show q - 1 = a by omega]
    by_cases c6 : q = 6
    · rw [if_pos (by rw [c6]; rfl : nI q = (6 : Int32))]
      exact hj
    · rw [if_neg (fun z => c6 ((nI_eq (a := q) (b := 6) (by omega) (by omega)).mp z) : ¬ nI q = (6 : Int32)), if_pos (by rw [show q = 7 by omega]; rfl : nI q = (7 : Int32))]
      exact hj
  have hq9 : ¬ nI q = (9 : Int32) := fun z => by have := (nI_eq (a := q) (b := 9) (by omega) (by omega)).mp z; omega
  by_cases hT : T = 60
  · left
    subst hT
    have hb3 : f_Md_behind m = some (nI 3, m1) := by
      rw [hbeh]
      unfold Md_behind_j142
      rw [if_pos rfl, many_t c8, Option.bind_some, if10]
      rfl
    exact dead_full hc (by omega) b1 (by omega) ((RL_behind (by omega) (by omega) h22 h31 hb3).trans (j54_f (by omega) (by omega) m1)) t2
  · right
    have hT2 : T < 60 := by omega
    obtain ⟨m2, hm2⟩ : ∃ m2, m2 = pf (pa m1 34 σ.length (nI q)) 31 1 := ⟨_, rfl⟩
    have hb0 : f_Md_behind m = some (0, m2) := by
      rw [hbeh]
      unfold Md_behind_j142
      rw [if_pos rfl, many_f c8 hT2, Option.bind_some, if00, h221, if_neg hq9, r2, nI_pred, chk_t (ib_nI (by omega) (by omega)), bnd_eq, bnd_eq, nI_clamp (by omega), hm2]
    have hcm2 : CM N p x0 m0 x m2 T q := by
      rw [hm2]
      refine cm_m hc1 (fun j hj => ?_) (fun j hj => ?_)
      · exact pf_ne _ _ (by omega)
      · exact pa_ne m1 _ _ hj
    obtain ⟨x', m', k', a1, a2, a3, a4, a5⟩ := adv hcm2 hT2 (fun z => by omega)
    have hns : nst q = nst a := by
      rcases ha with ⟨z1, z2⟩ | ⟨z1, z2⟩
      · rw [z1, z2]; decide
      · rw [z1, z2]; decide
    have hdv : dv q = dv a + 1 := by
      rcases ha with ⟨z1, z2⟩ | ⟨z1, z2⟩
      · rw [z1, z2]; decide
      · rw [z1, z2]; decide
    refine ⟨x', m', k', a1, (RL_behind (by omega) (by omega) h22 h31 hb0).trans a2, a3, ?_, ?_, ?_, ?_, ri_tm ?_ a5⟩
    · rw [a5.1 31 (by omega), hm2]; exact pf_at _ _ _
    · rw [a4.1 27 (by omega), h27]
      show nI (nst a + nsum σ) = nI (nst q + nsum σ)
      rw [hns]
    · rw [a4.1 19 (by omega)]; exact b1
    · exact ce_t (x := x) (m := m1) b2 (by rw [a4.2]) (by rw [a5.2, hm2]; rfl) (by rw [a5.2, hm2]; rfl)
    · have hdp : ∀ i, DP m2 p i = DP m1 p i := fun i => dp_cong (fun j _ => by rw [hm2]; rfl)
      refine ⟨by rw [hm2]; exact r1, by rw [hm2]; exact r2, ?_, ?_, ?_, by omega, r7, fun i hi => ?_, ?_, ?_, fun c hc => ?_⟩
      · rw [hm2]
        show m1.1 29 = nI (nst q + nsum σ)
        rw [r3, hns]
        rfl
      · rw [hm2]
        show upd (m1.2 34) σ.length (nI q) σ.length = nI q ∧ RS (upd (m1.2 34) σ.length (nI q)) σ
        exact ⟨pk_us, rs_upd (Nat.le_refl _) r4.2⟩
      · show e + P.length + (σ.length + 1) ≤ T + 1
        omega
      · rw [hdp, hm2]
        exact r8 i hi
      · rw [hdp, r9]
        show dv a + dsum σ + 1 = dv q + dsum σ + 0
        omega
      · have r10 : nst a + nsum σ ≤ 10 := r10
        show nst q + nsum σ ≤ 10
        omega
      · rcases List.mem_cons.mp hc with z | z
        · omega
        · exact r11 c (List.mem_cons_of_mem _ z)
/-- a closing bracket -/
theorem close_paren {N p : Nat} {x0 m0 x m : MS} {σ P : List Nat} {e T kk : Nat} (h : Bh N p x0 m0 (8 :: (List.replicate kk 18 ++ σ)) P x m e T 9) (hσ : tp σ ≠ 18) :
    (∃ x', f_Reader_take x = some x' ∧ DEAD p x0 m0 x' (RL m)) ∨ ∃ x' m' k', f_Reader_take x = some x' ∧ RL m = RL m' ∧ BU N p x0 m0 kk σ (pf x' 27 (x'.1 27 - 1)) m' (e + P.length) (T + 1) k' := by
  obtain ⟨hc, h31, h27, hb⟩ := h
  have h22 : m.1 22 = nI 9 := hc.2.2.2.2.2.1.2.2.2.1
  obtain ⟨m1, t1, t2, t3⟩ := through_eq (σ := 8 :: (List.replicate kk 18 ++ σ)) (show rk 8 = 0 by decide) (show 8 ≠ 7 by decide) P.length P m e (Nat.le_refl _) hb
  have t1 : f_Md_through m = some (nI 8, m1) := t1
  have hc1 := cm_of hc t2
  have h221 : m1.1 22 = nI 9 := (t2.1 22 (by omega)).trans h22
  have c8 : m1.1 30 = nI T := hc1.2.2.2.2.2.2.2.1
  obtain ⟨b1, b2, b3, b4, b5⟩ := id t3
  have b5 : RI m1 p (e + P.length) T (8 :: (List.replicate kk 18 ++ σ)) 1 := b5
  have b1 : x.1 19 = nI (e + P.length) := b1
  obtain ⟨r1, r2, r3, r4, r5, r6, r7, r8, r9, r10, r11⟩ := id b5
  have r2 : m1.1 28 = nI ((List.replicate kk 18 ++ σ).length + 1) := r2
  have r3 : m1.1 29 = nI (1 + nsum (List.replicate kk 18 ++ σ)) := r3
  have r5 : e + P.length + ((List.replicate kk 18 ++ σ).length + 1) ≤ T := r5
  have hT60 := hc.2.2.2.2.2.2.2.2
  have hbeh : f_Md_behind m = Md_behind_j142 (nI 8) (8 : Int32) m1 := by
    unfold f_Md_behind
    rw [h22, show (10 : Int32) = nI 10 from rfl, show (16 : Int32) = nI 16 from rfl, isin_k (by omega) (by omega) (by omega), if_neg (by omega : ¬ (10 ≤ 9 ∧ 9 ≤ 16)), Option.bind_some, if00, if_pos (show nI 9 = (9 : Int32) from rfl)]
    unfold Md_behind_j117
    rw [t1, bd2_some, h221, if_pos (show nI 9 = (9 : Int32) from rfl)]
  by_cases hT : T = 60
  · left
    subst hT
    have hb3 : f_Md_behind m = some (nI 3, m1) := by
      rw [hbeh]
      unfold Md_behind_j142
      rw [if_pos (show nI 8 = (8 : Int32) from rfl), many_t c8, Option.bind_some, if10]
      rfl
    exact dead_full hc (by omega) b1 (by omega) ((RL_behind (by omega) (by omega) h22 h31 hb3).trans (j54_f (by omega) (by omega) m1)) t2
  · right
    have hT2 : T < 60 := by omega
    obtain ⟨m2, hm2⟩ : ∃ m2, m2 = pf (pf (pf m1 28 (nI (List.replicate kk 18 ++ σ).length)) 29 (nI (nsum (List.replicate kk 18 ++ σ)))) 31 0 := ⟨_, rfl⟩
    have hm22 : m2.2 = m1.2 := by rw [hm2]; rfl
    have hri2 : RI m2 p (e + P.length) (T + 1) (List.replicate kk 18 ++ σ) 1 := by
      have hdp : ∀ i, DP m2 p i = DP m1 p i := fun i => dp_cong (fun j _ => by rw [hm22])
      have r10 : 1 + nsum (List.replicate kk 18 ++ σ) ≤ 10 := r10
      refine ⟨by rw [hm2]; exact r1, by rw [hm2]; rfl, by rw [hm2]; rfl, by rw [hm22]; exact r4.2, by omega, by omega, r7, fun i hi => ?_, ?_, by omega, fun c hc => r11 c (List.mem_cons_of_mem _ hc)⟩
      · rw [hdp, hm22]
        exact r8 i hi
      · rw [hdp, r9]
        show 0 + dsum (List.replicate kk 18 ++ σ) + 1 = _
        omega
    obtain ⟨m3, u1, u2, u3, u4, u5⟩ := turned_eq hσ kk m2 (e + P.length) hri2
    have hb0 : f_Md_behind m = some (0, m3) := by
      rw [hbeh]
      have e29 : (pf m1 28 (nI (List.replicate kk 18 ++ σ).length)).1 29 = nI (1 + nsum (List.replicate kk 18 ++ σ)) := (pf_ne _ _ (by omega)).trans r3
      unfold Md_behind_j142 f_Md_partIsThrough
      rw [if_pos (show nI 8 = (8 : Int32) from rfl), many_f c8 hT2, Option.bind_some, if00, h221, if_pos (show nI 9 = (9 : Int32) from rfl), bnd_eq, bnd_eq, r2, nI_pred, e29, Nat.add_comm 1, nI_pred, bnd_eq, ← hm2, u1, Option.bind_some]
    have hcm2 : CM N p x0 m0 x m2 T 9 := by
      rw [hm2]
      refine cm_m hc1 (fun j hj => ?_) (fun j hj => rfl)
      exact (pf_ne _ _ (by omega)).trans ((pf_ne _ _ (by omega)).trans (pf_ne _ _ (by omega)))
    have hcm3 := cm_of hcm2 u2
    obtain ⟨x', m', k', a1, a2, a3, a4, a5⟩ := adv hcm3 hT2 (fun z => by omega)
    have e27 : x'.1 27 = nI (1 + nsum (List.replicate kk 18 ++ σ)) := (a4.1 27 (by omega)).trans h27
    refine ⟨x', m', k', a1, (RL_behind (by omega) (by omega) h22 h31 hb0).trans a2, ?_, ?_, ?_, ?_, ?_, ?_, ?_⟩
    · obtain ⟨c1, c2, c3, c4, c5, c6, c7, c88, c9⟩ := a3
      exact ⟨frx_pf c1 (by omega), c2, c3, c4, c5, c6, c7, c88, c9⟩
    · rw [a5.1 31 (by omega), u2.1 31 (by omega), hm2]; exact pf_at _ _ _
    · rw [pf_at, e27, Nat.add_comm, nI_pred, nsum_rep]
    · rw [pf_ne _ _ (by omega), a4.1 19 (by omega)]; exact b1
    · intro i hi
      show x'.2 38 i = _
      rw [a4.2, a5.2, (u5 i hi).1, (u5 i hi).2, hm22]
      exact b2 i hi
    · intro i hi
      rw [a5.2]
      exact u4 i hi
    · exact ri_tm u3 a5
