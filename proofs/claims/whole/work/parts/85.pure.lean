-- ===== one token, both readers =====
theorem ri_tm {m m' : MS} {p e L : Nat} {st : List Nat} {w : Int} (h : RI m p e L st w) (ht : TMx m m') : RI m' p e L st w := by
  obtain ⟨r1, r2, r3, r4, r5, r6, r7, r8, r9, r10, r11⟩ := h
  have hdp : ∀ i, DP m' p i = DP m p i := fun i => dp_cong (fun j _ => by rw [ht.2])
  refine ⟨(ht.1 25 (by omega)).trans r1, (ht.1 28 (by omega)).trans r2, (ht.1 29 (by omega)).trans r3, by rw [ht.2]; exact r4, r5, r6, r7, fun i hi => ?_, by rw [hdp]; exact r9, r10, r11⟩
  rw [hdp, ht.2]
  exact r8 i hi
theorem ce_t {x m x' m' : MS} {p e : Nat} (h : CE x m p e) (hx : x'.2 38 = x.2 38) (h32 : m'.2 32 = m.2 32) (h33 : m'.2 33 = m.2 33) : CE x' m' p e := fun i hi => by
  rw [hx, h32, h33]
  exact h i hi
theorem tp_lt {m : MS} {p e L : Nat} {st : List Nat} {w : Int} (h : RI m p e L st w) : tp st < 20 := by
  have h11 := h.2.2.2.2.2.2.2.2.2.2
  cases hq : st with
  | nil => show 0 < 20; omega
  | cons a t =>
    refine h11 a ?_
    rw [hq]
    exact List.mem_cons_self ..
theorem cm_of {N p : Nat} {x0 m0 x m m' : MS} {T k : Nat} (h : CM N p x0 m0 x m T k) (ho : OF p m m') : CM N p x0 m0 x m' T k := by
  obtain ⟨c1, c2, c3, c4, c5, c6, c7, c8, c9⟩ := h
  obtain ⟨s1, ⟨a, s2, s3, s4⟩, s5, s6, s7, s8⟩ := c6
  obtain ⟨t1, t2, t3, t4, t5⟩ := c3
  refine ⟨c1, frm_of c2 ho, ⟨t1, (ho.1 19 (by omega)).trans t2, t3, by rw [ho.2.1 29 (by omega)]; exact t4, by rw [ho.2.1 29 (by omega)]; exact t5⟩, c4, c5, ⟨s1.trans (ho.1 21 (by omega)).symm, ⟨a, s2, (ho.1 20 (by omega)).trans s3, s4⟩, s5, (ho.1 22 (by omega)).trans s6, s7, fun q => ?_⟩, c7, (ho.1 30 (by omega)).trans c8, c9⟩
  rw [ho.1 23 (by omega)]
  exact s8 q
theorem cm_m {N p : Nat} {x0 m0 x m m' : MS} {T k : Nat} (h : CM N p x0 m0 x m T k) (h1 : ∀ j, ¬ (28 ≤ j ∧ j ≤ 29 ∨ j = 31) → m'.1 j = m.1 j) (h2 : ∀ j, j ≠ 34 → m'.2 j = m.2 j) : CM N p x0 m0 x m' T k := by
  obtain ⟨c1, c2, c3, c4, c5, c6, c7, c8, c9⟩ := h
  obtain ⟨s1, ⟨a, s2, s3, s4⟩, s5, s6, s7, s8⟩ := c6
  obtain ⟨t1, t2, t3, t4, t5⟩ := c3
  refine ⟨c1, ⟨fun j hj => (h1 j (by omega)).trans (c2.1 j hj), fun j hj => (h2 j (by omega)).trans (c2.2.1 j hj), fun i hi => by rw [h2 32 (by omega), h2 33 (by omega)]; exact c2.2.2 i hi⟩, ⟨t1, (h1 19 (by omega)).trans t2, t3, by rw [h2 29 (by omega)]; exact t4, by rw [h2 29 (by omega)]; exact t5⟩, c4, c5, ⟨s1.trans (h1 21 (by omega)).symm, ⟨a, s2, (h1 20 (by omega)).trans s3, s4⟩, s5, (h1 22 (by omega)).trans s6, s7, fun q => ?_⟩, c7, (h1 30 (by omega)).trans c8, c9⟩
  rw [h1 23 (by omega)]
  exact s8 q
theorem dead_full {N p : Nat} {x0 m0 x m m' : MS} {z k : Nat} {o : Option (Int32 × MS)} (h : CM N p x0 m0 x m 60 k) (hz : z ≤ 60) (h19 : x.1 19 = nI z) (h4 : k ≠ 4) (ho : o = some (nI 3, m')) (hm : OF p m m') : ∃ x', f_Reader_take x = some x' ∧ DEAD p x0 m0 x' o := by
  obtain ⟨c1, c2, c3, c4, c5, c6, c7, c8, c9⟩ := h
  obtain ⟨s1, s2, s5, s6, s7, s8⟩ := c6
  refine ⟨_, take_full c4 s5 s7 c7 (fun q => absurd q h4), ?_⟩
  exact dead_of (x := pf x 26 (nI 61)) (m := m) (frx_pf c1 (by omega)) hz h19 (s1.trans (hm.1 21 (by omega)).symm) (by omega) (by omega) ho (frm_of c2 hm)
/-- an infix sign behind an expression -/
theorem infix_adv {N p : Nat} {x0 m0 x m : MS} {σ P : List Nat} {e T q r : Nat} (h : Bh N p x0 m0 σ P x m e T q) (hq : 1 ≤ rk q) (hr : r = if rk q = 1 then 2 else rk q) (hP : ∀ a, a ∈ P → r ≤ rk a) (hσ : rk (tp σ) < r) (hσ1 : rk q = 1 → rk (tp σ) ≠ 1) :
    (∃ x', f_Reader_take x = some x' ∧ DEAD p x0 m0 x' (RL m)) ∨ ∃ x' m' k', f_Reader_take x = some x' ∧ RL m = RL m' ∧ Wt N p x0 m0 (q :: σ) x' m' (e + P.length) (T + 1) k' := by
  obtain ⟨hc, h31, h27, hb⟩ := h
  have hop := rk_op hq
  have hrr : 2 ≤ r ∧ r ≤ 3 := by
    have := rk_le q
    rw [hr]
    by_cases c : rk q = 1
    · rw [if_pos c]; omega
    · rw [if_neg c]; omega
  obtain ⟨m1, q1, q2, q3⟩ := reduce_eq (p := p) (x := x) (L := T) (r := r) (P2 := []) (σ := σ) (by omega) hrr.2 hσ P m e hP (by rw [List.append_nil]; exact hb)
  have hc1 := cm_of hc q2
  obtain ⟨c1, c2, c3, c4, c5, c6, c7, c8, c9⟩ := id hc1
  have h22 : m.1 22 = nI q := hc.2.2.2.2.2.1.2.2.2.1
  have h221 : m1.1 22 = nI q := c6.2.2.2.1
  obtain ⟨b1, b2, b3, b4, b5⟩ := id q3
  have b5 : RI m1 p (e + P.length) T σ 1 := b5
  have b1 : x.1 19 = nI (e + P.length) := b1
  have htop := top_eq b5
  have hlt := tp_lt b5
  have hrq := rank_ok q (by omega)
  obtain ⟨r1, r2, r3, r4, r5, r6, r7, r8, r9, r10, r11⟩ := id b5
  have hbeh : f_Md_behind m = Md_behind_j64 m1 := by
    unfold f_Md_behind
    rw [h22, show (10 : Int32) = nI 10 from rfl, show (16 : Int32) = nI 16 from rfl, isin_k (by omega) (by omega) (by omega), if_pos hop, Option.bind_some, if10, hrq, Option.bind_some, Option.bind_some]
    have hj37 : Md_behind_j37 (nI r) m = Md_behind_j64 m1 := by
      unfold Md_behind_j37
      rw [q1, Option.bind_some, h221, hrq, Option.bind_some]
      by_cases c : rk q = 1
      · rw [if_pos (by rw [c]; rfl : nI (rk q) = (1 : Int32)), htop, Option.bind_some, rank_ok _ hlt, Option.bind_some, if_neg (fun z => hσ1 c ((nI_eq (a := rk (tp σ)) (b := 1) (by have := rk_le (tp σ); omega) (by omega)).mp z) : ¬ nI (rk (tp σ)) = (1 : Int32))]
      · rw [if_neg (fun z => c ((nI_eq (a := rk q) (b := 1) (by have := rk_le q; omega) (by omega)).mp z) : ¬ nI (rk q) = (1 : Int32))]
    by_cases c : rk q = 1
    · rw [if_pos c] at hr
      rw [if_pos (by rw [c]; rfl : nI (rk q) = (1 : Int32)), show (2 : Int32) = nI r by rw [hr]; rfl]
      exact hj37
    · rw [if_neg c] at hr
      rw [if_neg (fun z => c ((nI_eq (a := rk q) (b := 1) (by have := rk_le q; omega) (by omega)).mp z) : ¬ nI (rk q) = (1 : Int32)), ← hr]
      exact hj37
  by_cases hT : T = 60
  · left
    subst hT
    have hb3 : f_Md_behind m = some (nI 3, m1) := by
      rw [hbeh]
      unfold Md_behind_j64
      rw [many_t c8, Option.bind_some, if10]
      rfl
    exact dead_full hc (by omega) b1 (by omega) ((RL_behind (by omega) (by omega) h22 h31 hb3).trans (j54_f (by omega) (by omega) m1)) q2
  · right
    have hT2 : T < 60 := by omega
    obtain ⟨m2, hm2⟩ : ∃ m2, m2 = pf (pf (pa m1 34 σ.length (nI q)) 28 (nI (σ.length + 1))) 31 1 := ⟨_, rfl⟩
    have hb0 : f_Md_behind m = some (0, m2) := by
      rw [hbeh]
      unfold Md_behind_j64 f_Md_push
      rw [many_f c8 hT2, Option.bind_some, if00, h221, r2, chk_t (ib_nI (by omega) (by omega)), bnd_eq, bnd_eq, pa_f, r2, nI_1, nI_clamp (by omega), Option.bind_some, bnd_eq, hm2]
    have hcm2 : CM N p x0 m0 x m2 T q := by
      rw [hm2]
      refine cm_m hc1 (fun j hj => ?_) (fun j hj => ?_)
      · exact (pf_ne _ _ (by omega)).trans (pf_ne _ _ (by omega))
      · exact pa_ne m1 _ _ hj
    obtain ⟨x', m', k', a1, a2, a3, a4, a5⟩ := adv hcm2 hT2 (fun z => by omega)
    refine ⟨x', m', k', a1, (RL_behind (by omega) (by omega) h22 h31 hb0).trans a2, a3, ?_, ?_, ?_, ?_, ri_tm ?_ a5⟩
    · rw [a5.1 31 (by omega), hm2]; exact pf_at _ _ _
    · rw [a4.1 27 (by omega), h27]
      show nI (nsum σ) = nI (nst q + nsum σ)
      rw [show nst q = 0 from if_neg (by omega), Nat.zero_add]
    · rw [a4.1 19 (by omega)]; exact b1
    · exact ce_t (x := x) (m := m1) b2 (by rw [a4.2]) (by rw [a5.2, hm2]; rfl) (by rw [a5.2, hm2]; rfl)
    · have hdp : ∀ i, DP m2 p i = DP m1 p i := fun i => dp_cong (fun j _ => by rw [hm2]; rfl)
      refine ⟨by rw [hm2]; exact r1, by rw [hm2]; rfl, ?_, ?_, ?_, by omega, r7, fun i hi => ?_, ?_, ?_, fun c hc => ?_⟩
      · rw [hm2]
        show m1.1 29 = nI (nst q + nsum σ)
        rw [r3, show nst q = 0 from if_neg (by omega), Nat.zero_add]
      · rw [hm2]
        show upd (m1.2 34) σ.length (nI q) σ.length = nI q ∧ RS (upd (m1.2 34) σ.length (nI q)) σ
        exact ⟨pk_us, rs_upd (Nat.le_refl _) r4⟩
      · show e + P.length + (σ.length + 1) ≤ T + 1
        omega
      · rw [hdp, hm2]
        exact r8 i hi
      · rw [hdp, r9]
        show dsum σ + 1 = dv q + dsum σ + 0
        rw [show dv q = 1 from if_pos hop]
        omega
      · show nst q + nsum σ ≤ 10
        rw [show nst q = 0 from if_neg (by omega)]
        omega
      · rcases List.mem_cons.mp hc with z | z
        · omega
        · exact r11 c z
