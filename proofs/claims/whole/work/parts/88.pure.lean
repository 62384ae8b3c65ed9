-- ===== the two readers, expression by expression =====
def OKU (N p : Nat) (x0 m0 : MS) (kk : Nat) (σ : List Nat) (T : Nat) (m x' : MS) : Prop := DEAD p x0 m0 x' (RL m) ∨ ∃ (m' : MS) (z T' q' : Nat), RL m = RL m' ∧ BU N p x0 m0 kk σ x' m' z T' q' ∧ T ≤ T'
def OKB (N p : Nat) (x0 m0 : MS) (C : List Nat → Nat → Prop) (σ : List Nat) (T : Nat) (m x' : MS) : Prop := DEAD p x0 m0 x' (RL m) ∨ ∃ (m' : MS) (P : List Nat) (e' T' q' : Nat), RL m = RL m' ∧ Bh N p x0 m0 σ P x' m' e' T' q' ∧ C P q' ∧ T ≤ T'
def C3 (P : List Nat) (q : Nat) : Prop := (∀ a, a ∈ P → 3 ≤ rk a) ∧ rk q ≤ 2
def C2 (P : List Nat) (q : Nat) : Prop := (∀ a, a ∈ P → 2 ≤ rk a) ∧ rk q ≤ 1
def SPU (N p : Nat) (x0 m0 : MS) (n : Nat) : Prop := ∀ (kk : Nat) (σ : List Nat) (x m : MS) (e T q : Nat), Wt N p x0 m0 (List.replicate kk 18 ++ σ) x m e T q → tp σ ≠ 18 → (q = 5 → 0 < kk ∨ 0 < rk (tp σ)) → 5 * (10 - nsum (List.replicate kk 18 ++ σ)) + 2 ≤ n → ∃ x', f_Reader_rd n 4 x = some x' ∧ OKU N p x0 m0 kk σ (T + 1) m x'
def SPT (N p : Nat) (x0 m0 : MS) (n : Nat) : Prop := ∀ (σ : List Nat) (x m : MS) (e T q : Nat), Wt N p x0 m0 σ x m e T q → rk (tp σ) ≤ 2 → tp σ ≠ 18 → (q = 5 → 0 < rk (tp σ)) → 5 * (10 - nsum σ) + 3 ≤ n → ∃ x', f_Reader_rd n 3 x = some x' ∧ OKB N p x0 m0 C3 σ (T + 1) m x'
def SPS (N p : Nat) (x0 m0 : MS) (n : Nat) : Prop := ∀ (σ : List Nat) (x m : MS) (e T q : Nat), Wt N p x0 m0 σ x m e T q → rk (tp σ) ≤ 1 → tp σ ≠ 18 → (q = 5 → 0 < rk (tp σ)) → 5 * (10 - nsum σ) + 4 ≤ n → ∃ x', f_Reader_rd n 2 x = some x' ∧ OKB N p x0 m0 C2 σ (T + 1) m x'
def SPC (N p : Nat) (x0 m0 : MS) (n : Nat) : Prop := ∀ (σ : List Nat) (x m : MS) (e T q : Nat), Wt N p x0 m0 σ x m e T q → rk (tp σ) = 0 → tp σ ≠ 18 → q ≠ 5 → 5 * (10 - nsum σ) + 5 ≤ n → ∃ x', f_Reader_rd n 1 x = some x' ∧ OKB N p x0 m0 NXE σ (T + 1) m x'
def SPE (N p : Nat) (x0 m0 : MS) (n : Nat) : Prop := ∀ (σ : List Nat) (x m : MS) (e T q : Nat), Wt N p x0 m0 σ x m e T q → rk (tp σ) = 0 → tp σ ≠ 18 → 5 * (10 - nsum σ) + 6 ≤ n → ∃ x', f_Reader_rd n 0 x = some x' ∧ OKB N p x0 m0 NXE σ (T + 1) m x'
theorem bu_bh {N p : Nat} {x0 m0 x m : MS} {σ : List Nat} {z T q : Nat} (h : BU N p x0 m0 0 σ x m z T q) : Bh N p x0 m0 σ [] x m z T q := by
  obtain ⟨h1, h2, h3, h4, h5, h6, h7⟩ := h
  rw [Nat.zero_add] at h3
  exact ⟨h1, h2, h3, h4, h5, trivial, fun a ha => absurd ha (List.not_mem_nil), h7⟩
theorem bh_emit {N p : Nat} {x0 m0 x m : MS} {σ P : List Nat} {e T q a : Nat} (h : Bh N p x0 m0 (a :: σ) P x m e T q) (ha : 10 ≤ a ∧ a ≤ 16) : ∃ x', f_Reader_emit (-(kc a)) x = some x' ∧ Bh N p x0 m0 σ (P ++ [a]) x' m e T q := by
  obtain ⟨hc, h31, h27, hb⟩ := h
  have hr5 : e + (P ++ a :: σ).length ≤ T := hb.2.2.2.2.2.2.2.2.1
  rw [List.length_append] at hr5
  have hr5 : e + (P.length + (σ.length + 1)) ≤ T := hr5
  obtain ⟨c1, c2, c3, c4, c5, c6, c7, c8, c9⟩ := hc
  have hfl : fl a = a := if_neg (by omega)
  refine ⟨_, remit_eq (z := e + P.length) (by omega) hb.1 _, ⟨frx_pf (frx_pa c1) (by omega), c2, c3, c4, c5, c6, c7, c8, c9⟩, h31, ?_, ?_⟩
  · show x.1 27 = _
    rw [h27]
    show nI (nst a + nsum σ) = nI (nsum σ)
    rw [show nst a = 0 from if_neg (by omega), Nat.zero_add]
  · have := bk_snoc (Or.inr ha) hb
    rw [hfl, ← tr_op a (by omega) (by omega)] at this
    exact this
theorem dead_rw {p : Nat} {x0 m0 x : MS} {o o' : Option (Int32 × MS)} (h : DEAD p x0 m0 x o) (e : o' = o) : DEAD p x0 m0 x o' := by rw [e]; exact h
/-- a sign and what stands right of it -/
theorem op_step {N p : Nat} {x0 m0 x m : MS} {σ P : List Nat} {e T q r w : Nat} {C : List Nat → Nat → Prop} {rc : Nat → MS → Option MS} (h : Bh N p x0 m0 σ P x m e T q) (hq : 1 ≤ rk q) (hr : r = if rk q = 1 then 2 else rk q) (hP : ∀ a, a ∈ P → r ≤ rk a) (hσ : rk (tp σ) < r) (hσ1 : rk q = 1 → rk (tp σ) ≠ 1) (hdead : ∀ y : MS, ¬ y.1 20 = 0 → rc w y = some y) (hsub : ∀ (x1 m1 : MS) (e1 T1 k1 : Nat), Wt N p x0 m0 (q :: σ) x1 m1 e1 T1 k1 → ∃ x2, rc w x1 = some x2 ∧ OKB N p x0 m0 C (q :: σ) (T1 + 1) m1 x2) :
    ∃ s2 s3 x4, f_Reader_take x = some s2 ∧ rc w s2 = some s3 ∧ f_Reader_emit (-(kc q)) s3 = some x4 ∧ (DEAD p x0 m0 x4 (RL m) ∨ ∃ (m' : MS) (P' : List Nat) (e' T' q' : Nat), RL m = RL m' ∧ Bh N p x0 m0 σ (P' ++ [q]) x4 m' e' T' q' ∧ C P' q' ∧ T + 2 ≤ T') := by
  have hop := rk_op hq
  rcases infix_adv h hq hr hP hσ hσ1 with ⟨x1, a1, a2⟩ | ⟨x1, m1, k1, a1, a2, a3⟩
  · obtain ⟨x4, b1, b2⟩ := dead_emit a2 (-(kc q))
    exact ⟨x1, x1, x4, a1, hdead x1 (dead_ne a2), b1, Or.inl b2⟩
  · obtain ⟨x2, b1, b2⟩ := hsub x1 m1 _ _ k1 a3
    rcases b2 with b2 | ⟨m2, P2, e2, T2, q2, b3, b4, b5, b6⟩
    · obtain ⟨x4, d1, d2⟩ := dead_emit b2 (-(kc q))
      exact ⟨x1, x2, x4, a1, b1, d1, Or.inl (dead_rw d2 a2)⟩
    · obtain ⟨x4, d1, d2⟩ := bh_emit b4 hop
      exact ⟨x1, x2, x4, a1, b1, d1, Or.inr ⟨m2, P2, e2, T2, q2, a2.trans b3, d2, b5, by omega⟩⟩
theorem oft_ok : ∀ q, q ≤ 17 → f_Reader_isOfT (kc q) = some (if rk q = 3 then 1 else 0) := by decide +kernel
theorem t_loop {N p : Nat} {x0 m0 : MS} {σ : List Nat} {n : Nat} (hU : SPU N p x0 m0 n) (hn : 1 ≤ n) (hσ : rk (tp σ) ≤ 2) (hf : 5 * (10 - nsum σ) + 2 ≤ n) : ∀ (d : Nat) (i : Nat) (x m : MS) (P : List Nat) (e T q : Nat), 60 - T = d → i < T → Bh N p x0 m0 σ P x m e T q → (∀ a, a ∈ P → 3 ≤ rk a) → ∃ x', loop (fun z => Reader_readT_l6 (f_Reader_rd n) z.1 z.2) (nI i, x) = some x' ∧ OKB N p x0 m0 C3 σ T m x' := by
  intro d
  induction d using Nat.strongRecOn with
  | _ d ih =>
    intro i x m P e T q hd hi h hP
    obtain ⟨hc, -⟩ := id h
    have hT := hc.2.2.2.2.2.2.2.2
    have hk := hc.2.2.2.2.2.1.2.2.1
    have h24 := hc.2.2.2.2.2.1.2.2.2.2.1
    have n60 : ¬ (60 : Int32) ≤ nI i := by rw [fa_le, nI_toInt (by omega)]; show ¬ (60 : Int) ≤ (i : Int); omega
    by_cases c : rk q = 3
    · obtain ⟨s2, s3, x4, a1, a2, a3, a4⟩ := op_step (w := 4) (C := fun P' q' => P' = []) (rc := f_Reader_rd n) h (by omega) (r := 3) (by rw [if_neg (by omega), c]) hP (by omega) (fun z => by omega) (fun y hy => by
        obtain ⟨n', rfl⟩ : ∃ n', n = n' + 1 := ⟨n - 1, by omega⟩
        exact dead_U hy n') (fun x1 m1 e1 T1 k1 hw => by
        have hop := rk_op (a := q) (by omega)
        have hns : nsum (q :: σ) = nsum σ := by
          show nst q + nsum σ = nsum σ
          rw [show nst q = 0 from if_neg (by omega), Nat.zero_add]
        obtain ⟨x2, b1, b2⟩ := hU 0 (q :: σ) x1 m1 e1 T1 k1 hw (by show q ≠ 18; omega) (fun _ => Or.inr (by show 0 < rk q; omega)) (by
          show 5 * (10 - nsum (q :: σ)) + 2 ≤ n
          rw [hns]; exact hf)
        refine ⟨x2, b1, ?_⟩
        rcases b2 with b2 | ⟨m2, z, T2, q2, b3, b4, b5⟩
        · exact Or.inl b2
        · exact Or.inr ⟨m2, [], z, T2, q2, b3, bu_bh b4, rfl, b5⟩)
      have hstep : Reader_readT_l6 (f_Reader_rd n) (nI i) x = some (.inl (nI (i + 1), x4)) := by
        unfold Reader_readT_l6
        rw [if_neg n60, if_pos hc.2.2.2.1, h24, oft_ok q hk, Option.bind_some, if_pos c, if10, bnd_eq, a1, Option.bind_some, a2, Option.bind_some, a3, Option.bind_some, bnd_eq, nI_1]
      rcases a4 with a4 | ⟨m', P', e', T', q', b1, b2, b3, b4⟩
      · exact ⟨x4, (loop_inl hstep).trans (deadloop_T (dead_ne a4) _ _), Or.inl a4⟩
      · subst b3
        have hT' := b2.1.2.2.2.2.2.2.2.2
        obtain ⟨x', d1, d2⟩ := ih (60 - T') (by omega) (i + 1) x4 m' ([] ++ [q]) e' T' q' rfl (by omega) b2 (fun a ha => by
          have : a = q := List.mem_singleton.mp ha
          rw [this]; omega)
        refine ⟨x', (loop_inl hstep).trans d1, ?_⟩
        rcases d2 with d2 | ⟨m2, P2, e2, T2, q2, d3, d4, d5, d6⟩
        · exact Or.inl (dead_rw d2 b1)
        · exact Or.inr ⟨m2, P2, e2, T2, q2, b1.trans d3, d4, d5, by omega⟩
    · refine ⟨x, ?_, Or.inr ⟨m, P, e, T, q, rfl, h, ⟨hP, by have := rk_le q; omega⟩, Nat.le_refl T⟩⟩
      refine loop_inr ?_
      show Reader_readT_l6 (f_Reader_rd n) (nI i) x = _
      unfold Reader_readT_l6
      rw [if_neg n60, if_pos hc.2.2.2.1, h24, oft_ok q hk, Option.bind_some, if_neg c, if00]
      rfl
theorem spt {N p : Nat} {x0 m0 : MS} {n : Nat} (hU : SPU N p x0 m0 n) : SPT N p x0 m0 (n + 1) := by
  intro σ x m e T q h h1 h2 h3 hf
  rw [rd_3]
  unfold b_f_Reader_readT
  obtain ⟨x1, b1, b2⟩ := hU 0 σ x m e T q h h2 (fun z => Or.inr (h3 z)) (by show 5 * (10 - nsum σ) + 2 ≤ n; omega)
  rw [b1, Option.bind_some]
  rcases b2 with b2 | ⟨m2, z, T2, q2, b3, b4, b5⟩
  · exact ⟨x1, deadloop_T (dead_ne b2) _ _, Or.inl b2⟩
  · obtain ⟨x', d1, d2⟩ := t_loop hU (by omega) h1 (by omega) (60 - T2) 0 x1 m2 [] z T2 q2 rfl (by omega) (bu_bh b4) (fun a ha => absurd ha (List.not_mem_nil))
    rw [nI_0] at d1
    refine ⟨x', d1, ?_⟩
    rcases d2 with d2 | ⟨m3, P3, e3, T3, q3, d3, d4, d5, d6⟩
    · exact Or.inl (dead_rw d2 b3)
    · exact Or.inr ⟨m3, P3, e3, T3, q3, b3.trans d3, d4, d5, by omega⟩
theorem rk2 {q : Nat} (h : rk q = 2) : q = 10 ∨ q = 11 := by
  unfold rk at h
  by_cases c1 : q = 15 ∨ q = 16
  · rw [if_pos c1] at h; omega
  · rw [if_neg c1] at h
    by_cases c2 : q = 10 ∨ q = 11
    · exact c2
    · rw [if_neg c2] at h
      by_cases c3 : 12 ≤ q ∧ q ≤ 14
      · rw [if_pos c3] at h; omega
      · rw [if_neg c3] at h; omega
theorem rk1 {q : Nat} (h : rk q = 1) : q = 15 ∨ q = 16 := by
  unfold rk at h
  by_cases c1 : q = 15 ∨ q = 16
  · exact c1
  · rw [if_neg c1] at h
    by_cases c2 : q = 10 ∨ q = 11
    · rw [if_pos c2] at h; omega
    · rw [if_neg c2] at h
      by_cases c3 : 12 ≤ q ∧ q ≤ 14
      · rw [if_pos c3] at h; omega
      · rw [if_neg c3] at h; omega
theorem sgn2_ok : ∀ q, q ≤ 17 → ((kc q = 43 ∨ kc q = 45) ↔ rk q = 2) := by decide +kernel
theorem sgn1_ok : ∀ q, q ≤ 17 → ((kc q = 60 ∨ kc q = 61) ↔ rk q = 1) := by decide +kernel
theorem s_loop {N p : Nat} {x0 m0 : MS} {σ : List Nat} {n : Nat} (hTT : SPT N p x0 m0 n) (hn : 2 ≤ n) (hσ : rk (tp σ) ≤ 1) (hf : 5 * (10 - nsum σ) + 3 ≤ n) : ∀ (d : Nat) (i : Nat) (x m : MS) (P : List Nat) (e T q : Nat), 60 - T = d → i < T → Bh N p x0 m0 σ P x m e T q → (∀ a, a ∈ P → 2 ≤ rk a) → rk q ≤ 2 → ∃ x', loop (fun z => Reader_readS_l6 (f_Reader_rd n) z.1 z.2) (nI i, x) = some x' ∧ OKB N p x0 m0 C2 σ T m x' := by
  intro d
  induction d using Nat.strongRecOn with
  | _ d ih =>
    intro i x m P e T q hd hi h hP hq2
    obtain ⟨hc, -⟩ := id h
    have hT := hc.2.2.2.2.2.2.2.2
    have hk := hc.2.2.2.2.2.1.2.2.1
    have h24 := hc.2.2.2.2.2.1.2.2.2.2.1
    have n60 : ¬ (60 : Int32) ≤ nI i := by rw [fa_le, nI_toInt (by omega)]; show ¬ (60 : Int) ≤ (i : Int); omega
    by_cases c : rk q = 2
    · obtain ⟨s2, s3, x4, a1, a2, a3, a4⟩ := op_step (w := 3) (C := C3) (rc := f_Reader_rd n) h (by omega) (r := 2) (by rw [if_neg (by omega), c]) hP (by omega) (fun z => by omega) (fun y hy => by
        obtain ⟨n', rfl⟩ : ∃ n', n = n' + 2 := ⟨n - 2, by omega⟩
        exact dead_T hy n') (fun x1 m1 e1 T1 k1 hw => by
        have hop := rk_op (a := q) (by omega)
        have hns : nsum (q :: σ) = nsum σ := by
          show nst q + nsum σ = nsum σ
          rw [show nst q = 0 from if_neg (by omega), Nat.zero_add]
        exact hTT (q :: σ) x1 m1 e1 T1 k1 hw (by show rk q ≤ 2; omega) (by show q ≠ 18; omega) (fun _ => by show 0 < rk q; omega) (by rw [hns]; exact hf))
      have hj : Reader_readS_j37 (f_Reader_rd n) (nI i) x = some (.inl (nI (i + 1), x4)) := by
        unfold Reader_readS_j37
        rw [bnd_eq, h24, a1, Option.bind_some, a2, Option.bind_some, a3, Option.bind_some, bnd_eq, nI_1]
      have hstep : Reader_readS_l6 (f_Reader_rd n) (nI i) x = some (.inl (nI (i + 1), x4)) := by
        unfold Reader_readS_l6
        rw [if_neg n60, if_pos hc.2.2.2.1, h24, hj]
        by_cases c43 : kc q = (43 : Int32)
        · rw [if_pos c43]
        · rw [if_neg c43, if_pos (((sgn2_ok q hk).mpr c).resolve_left c43)]
      rcases a4 with a4 | ⟨m', P', e', T', q', b1, b2, b3, b4⟩
      · exact ⟨x4, (loop_inl hstep).trans (deadloop_S (dead_ne a4) _ _), Or.inl a4⟩
      · have hT' := b2.1.2.2.2.2.2.2.2.2
        obtain ⟨x', d1, d2⟩ := ih (60 - T') (by omega) (i + 1) x4 m' (P' ++ [q]) e' T' q' rfl (by omega) b2 (fun a ha => by
          rcases List.mem_append.mp ha with z | z
          · have := b3.1 a z
            omega
          · rw [List.mem_singleton.mp z]; omega) b3.2
        refine ⟨x', (loop_inl hstep).trans d1, ?_⟩
        rcases d2 with d2 | ⟨m2, P2, e2, T2, q2, d3, d4, d5, d6⟩
        · exact Or.inl (dead_rw d2 b1)
        · exact Or.inr ⟨m2, P2, e2, T2, q2, b1.trans d3, d4, d5, by omega⟩
    · refine ⟨x, ?_, Or.inr ⟨m, P, e, T, q, rfl, h, ⟨hP, by omega⟩, Nat.le_refl T⟩⟩
      refine loop_inr ?_
      show Reader_readS_l6 (f_Reader_rd n) (nI i) x = _
      unfold Reader_readS_l6
      rw [if_neg n60, if_pos hc.2.2.2.1, h24, if_neg (fun z => c ((sgn2_ok q hk).mp (Or.inl z)) : ¬ kc q = (43 : Int32)), if_neg (fun z => c ((sgn2_ok q hk).mp (Or.inr z)) : ¬ kc q = (45 : Int32))]
      rfl
theorem sps {N p : Nat} {x0 m0 : MS} {n : Nat} (hT : SPT N p x0 m0 n) : SPS N p x0 m0 (n + 1) := by
  intro σ x m e T q h h1 h2 h3 hf
  rw [rd_2]
  unfold b_f_Reader_readS
  obtain ⟨x1, b1, b2⟩ := hT σ x m e T q h (by omega) h2 h3 (by omega)
  rw [b1, Option.bind_some]
  rcases b2 with b2 | ⟨m2, P2, e2, T2, q2, b3, b4, b5, b6⟩
  · exact ⟨x1, deadloop_S (dead_ne b2) _ _, Or.inl b2⟩
  · obtain ⟨x', d1, d2⟩ := s_loop hT (by omega) h1 (by omega) (60 - T2) 0 x1 m2 P2 e2 T2 q2 rfl (by omega) b4 (fun a ha => by have := b5.1 a ha; omega) b5.2
    rw [nI_0] at d1
    refine ⟨x', d1, ?_⟩
    rcases d2 with d2 | ⟨m3, P3, e3, T3, q3, d3, d4, d5, d6⟩
    · exact Or.inl (dead_rw d2 b3)
    · exact Or.inr ⟨m3, P3, e3, T3, q3, b3.trans d3, d4, d5, by omega⟩
theorem spc {N p : Nat} {x0 m0 : MS} {n : Nat} (hS : SPS N p x0 m0 n) : SPC N p x0 m0 (n + 1) := by
  intro σ x m e T q h h1 h2 h3 hf
  rw [rd_1]
  unfold b_f_Reader_readC
  obtain ⟨x1, b1, b2⟩ := hS σ x m e T q h (by omega) h2 (fun z => absurd z h3) (by omega)
  rw [b1, Option.bind_some]
  rcases b2 with b2 | ⟨m2, P2, e2, T2, q2, b3, b4, b5, b6⟩
  · rw [if_neg (dead_ne b2)]
    exact ⟨x1, rfl, Or.inl b2⟩
  · obtain ⟨hc, -⟩ := id b4
    have hk := hc.2.2.2.2.2.1.2.2.1
    have h24 := hc.2.2.2.2.2.1.2.2.2.2.1
    rw [if_pos hc.2.2.2.1, h24]
    by_cases c : rk q2 = 1
    · obtain ⟨s2, s3, x4, a1, a2, a3, a4⟩ := op_step (w := 2) (C := C2) (rc := f_Reader_rd n) b4 (by omega) (r := 2) (by rw [if_pos c]) b5.1 (by omega) (fun _ => by omega) (fun y hy => by
        obtain ⟨n', rfl⟩ : ∃ n', n = n' + 3 := ⟨n - 3, by omega⟩
        exact dead_S hy n') (fun x1 m1 e1 T1 k1 hw => by
        have hop := rk_op (a := q2) (by omega)
        have hns : nsum (q2 :: σ) = nsum σ := by
          show nst q2 + nsum σ = nsum σ
          rw [show nst q2 = 0 from if_neg (by omega), Nat.zero_add]
        exact hS (q2 :: σ) x1 m1 e1 T1 k1 hw (by show rk q2 ≤ 1; omega) (by show q2 ≠ 18; omega) (fun _ => by show 0 < rk q2; omega) (by rw [hns]; omega))
      have hj : Reader_readC_j29 (f_Reader_rd n) x1 = some x4 := by
        unfold Reader_readC_j29
        rw [bnd_eq, h24, a1, Option.bind_some, a2, Option.bind_some, a3, Option.bind_some]
      have hres : (if kc q2 = (60 : Int32) then Reader_readC_j29 (f_Reader_rd n) x1 else if kc q2 = (61 : Int32) then Reader_readC_j29 (f_Reader_rd n) x1 else some x1) = some x4 := by
        rw [hj]
        by_cases c60 : kc q2 = (60 : Int32)
        · rw [if_pos c60]
        · rw [if_neg c60, if_pos (((sgn1_ok q2 hk).mpr c).resolve_left c60)]
      refine ⟨x4, hres, ?_⟩
      rcases a4 with a4 | ⟨m', P', e', T', q', d1, d2, d3, d4⟩
      · exact Or.inl (dead_rw a4 b3)
      · exact Or.inr ⟨m', P' ++ [q2], e', T', q', b3.trans d1, d2, ⟨d3.2, fun _ => ⟨P', q2, [], rfl, d3.1, c⟩⟩, by omega⟩
    · rw [if_neg (fun z => c ((sgn1_ok q2 hk).mp (Or.inl z)) : ¬ kc q2 = (60 : Int32)), if_neg (fun z => c ((sgn1_ok q2 hk).mp (Or.inr z)) : ¬ kc q2 = (61 : Int32))]
      exact ⟨x1, rfl, Or.inr ⟨m2, P2, e2, T2, q2, b3, b4, ⟨b5.2, fun z => absurd z c⟩, b6⟩⟩
