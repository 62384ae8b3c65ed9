theorem refuse_bad {N p : Nat} {x0 m0 x m m' : MS} {σ P : List Nat} {e T q : Nat} (h : Bh N p x0 m0 σ P x m e T q) (hr : RL m = some (nI 1, m')) (ho : OF p m m') : ∃ x', f_Reader_refuse 1 x = some x' ∧ DEAD p x0 m0 x' (RL m) := by
  obtain ⟨hc, h31, h27, hb⟩ := h
  obtain ⟨c1, c2, c3, c4, c5, c6, c7, c8, c9⟩ := hc
  have hr5 : e + (P ++ σ).length ≤ T := hb.2.2.2.2.2.2.2.2.1
  rw [List.length_append] at hr5
  refine ⟨_, refuse_eq c4 1, ?_⟩
  exact dead_of (m := m) (m' := m') (f := 1) (z := e + P.length) c1 (by omega) hb.1 (c6.1.trans (ho.1 21 (by omega)).symm) (by omega) (by omega) hr (frm_of c2 ho)
theorem exp_then {N p : Nat} {x0 m0 x m : MS} {σ P : List Nat} {e T q a w : Nat} (h : Bh N p x0 m0 (a :: σ) P x m e T q) (hN : NXE P q) (ha : (a = 5 ∧ w = 6) ∨ (a = 6 ∧ w = 7)) : ∃ x', f_Reader_expect (kc w) x = some x' ∧ (DEAD p x0 m0 x' (RL m) ∨ ∃ m' e' k', RL m = RL m' ∧ Wt N p x0 m0 (w :: σ) x' m' e' (T + 1) k') := by
  have hk := h.1.2.2.2.2.2.1.2.2.1
  have h24 := h.1.2.2.2.2.2.1.2.2.2.2.1
  unfold f_Reader_expect
  rw [h24]
  by_cases c : q = w
  · subst c
    rw [if_pos rfl]
    rcases close_then h ha with ⟨x', a1, a2⟩ | ⟨x', m', k', a1, a2, a3⟩
    · rw [a1]
      exact ⟨x', rfl, Or.inl a2⟩
    · rw [a1]
      exact ⟨x', rfl, Or.inr ⟨m', _, k', a2, a3⟩⟩
  · rw [if_neg (fun z => c (kc_inj q hk w (by omega) z))]
    have hra : rk a = 0 := by
      rcases ha with z | z
      · rw [z.1]; decide
      · rw [z.1]; decide
    obtain ⟨m', b1, b2⟩ := close_bad h hN hra (by show a ≠ 7; omega) (fun _ => by show a ≠ 8; omega) (fun z => by show a ≠ 5; omega) (fun z => by show a ≠ 6; omega) (fun _ => by show a ≠ 0; omega)
    obtain ⟨x', d1, d2⟩ := refuse_bad h b1 b2
    rw [d1]
    exact ⟨x', rfl, Or.inl d2⟩
theorem exp_paren {N p : Nat} {x0 m0 x m : MS} {σ P : List Nat} {e T q kk : Nat} (h : Bh N p x0 m0 (8 :: (List.replicate kk 18 ++ σ)) P x m e T q) (hN : NXE P q) (hσ : tp σ ≠ 18) : ∃ x', f_Reader_expect 41 x = some x' ∧ (DEAD p x0 m0 x' (RL m) ∨ ∃ m' z k', RL m = RL m' ∧ BU N p x0 m0 kk σ (pf x' 27 (x'.1 27 - 1)) m' z (T + 1) k') := by
  have hk := h.1.2.2.2.2.2.1.2.2.1
  have h24 := h.1.2.2.2.2.2.1.2.2.2.2.1
  unfold f_Reader_expect
  rw [h24]
  by_cases c : q = 9
  · subst c
    rw [if_pos (show kc 9 = (41 : Int32) from rfl)]
    rcases close_paren h hσ with ⟨x', a1, a2⟩ | ⟨x', m', k', a1, a2, a3⟩
    · rw [a1]
      exact ⟨x', rfl, Or.inl a2⟩
    · rw [a1]
      exact ⟨x', rfl, Or.inr ⟨m', _, k', a2, a3⟩⟩
  · rw [if_neg (fun z => c ((kc_is hk (by omega) (b := 9) rfl).mp z) : ¬ kc q = (41 : Int32))]
    obtain ⟨m', b1, b2⟩ := close_bad h hN (show rk 8 = 0 by decide) (show 8 ≠ 7 by decide) (fun z => absurd z c) (fun _ => show 8 ≠ 5 by decide) (fun _ => show 8 ≠ 6 by decide) (fun _ => show 8 ≠ 0 by decide)
    obtain ⟨x', d1, d2⟩ := refuse_bad h b1 b2
    rw [d1]
    exact ⟨x', rfl, Or.inl d2⟩
theorem bu_emit {N p : Nat} {x0 m0 x m : MS} {σ : List Nat} {kk z T q : Nat} (h : BU N p x0 m0 (kk + 1) σ x m z T q) : ∃ x', f_Reader_emit (-126) x = some x' ∧ BU N p x0 m0 kk σ (pf x' 27 (x'.1 27 - 1)) m (z + 1) T q := by
  obtain ⟨hc, h31, h27, h19, hce, h18, hri⟩ := h
  obtain ⟨c1, c2, c3, c4, c5, c6, c7, c8, c9⟩ := hc
  have hr5 : z + (kk + 1) + σ.length ≤ T := hri.2.2.2.2.1
  refine ⟨_, remit_eq (z := z) (by omega) h19 _, ⟨frx_pf (frx_pf (frx_pa c1) (by omega)) (by omega), c2, c3, c4, c5, c6, c7, c8, c9⟩, h31, ?_, rfl, fun i hi => ?_, fun i hi => ?_, ?_⟩
  · rw [pf_at]
    show x.1 27 - 1 = _
    rw [h27, show kk + 1 + nsum σ = kk + nsum σ + 1 by omega, nI_pred]
  · show upd (x.2 38) z (-126) i = _
    by_cases c : i = z
    · have h0 := h18 0 (by omega)
      rw [Nat.add_zero] at h0
      rw [c, pk_us, h0]
      rfl
    · rw [pk_un c]
      exact hce i (by omega)
  · have := h18 (i + 1) (by omega)
    rw [show z + 1 + i = z + (i + 1) by omega]
    exact this
  · rw [show z + 1 + kk = z + (kk + 1) by omega]
    exact hri
theorem spu {N p : Nat} {x0 m0 : MS} {n : Nat} (hU : SPU N p x0 m0 n) (hE : SPE N p x0 m0 n) : SPU N p x0 m0 (n + 1) := by
  intro kk σ x m e T q h h1 h2 hf
  obtain ⟨n', rfl⟩ : ∃ n', n = n' + 1 := ⟨n - 1, by omega⟩
  obtain ⟨hc, -, -, -, -, hri⟩ := id h
  have hk := hc.2.2.2.2.2.1.2.2.1
  have h24 := hc.2.2.2.2.2.1.2.2.2.2.1
  rw [rd_4]
  unfold b_f_Reader_readU
  rw [if_pos hc.2.2.2.1, bnd_eq, h24]
  by_cases q8 : q = 8
  · -- a bracket
    rw [if_pos (by rw [q8]; rfl : kc q = (40 : Int32))]
    obtain ⟨x1, a1, a2⟩ := open_adv (a := 8) h (Or.inl ⟨q8, rfl⟩)
    rw [a1, Option.bind_some]
    rcases a2 with a2 | ⟨m1, k1, a3, a4, a5⟩
    · rw [dead_E (dead_ne a2), Option.bind_some, dead_expect (dead_ne a2), Option.bind_some, bnd_eq]
      exact ⟨_, rfl, Or.inl (dead_27 a2 _)⟩
    · obtain ⟨x2, b1, b2⟩ := hE _ x1 m1 _ _ k1 a4 (show rk 8 = 0 by decide) (show 8 ≠ 18 by decide) (by
        show 5 * (10 - (1 + nsum (List.replicate kk 18 ++ σ))) + 6 ≤ n' + 1
        omega)
      rw [b1, Option.bind_some]
      rcases b2 with b2 | ⟨m2, P2, e2, T2, q2, b3, b4, b5, b6⟩
      · rw [dead_expect (dead_ne b2), Option.bind_some, bnd_eq]
        exact ⟨_, rfl, Or.inl (dead_27 (dead_rw b2 a3) _)⟩
      · obtain ⟨x3, d1, d2⟩ := exp_paren b4 b5 h1
        rw [d1, Option.bind_some, bnd_eq]
        rcases d2 with d2 | ⟨m3, z, k3, d3, d4⟩
        · exact ⟨_, rfl, Or.inl (dead_27 (dead_rw (dead_rw d2 b3) a3) _)⟩
        · exact ⟨_, rfl, Or.inr ⟨m3, z, T2 + 1, k3, a3.trans (b3.trans d3), d4, by omega⟩⟩
  · rw [if_neg (fun z => q8 ((kc_is hk (by omega) (b := 8) rfl).mp z) : ¬ kc q = (40 : Int32))]
    by_cases q11 : q = 11
    · -- a sign to turn
      rw [if_pos (by rw [q11]; rfl : kc q = (45 : Int32))]
      obtain ⟨x1, a1, a2⟩ := open_adv (a := 18) h (Or.inr (Or.inl ⟨q11, rfl⟩))
      rw [a1, Option.bind_some]
      rcases a2 with a2 | ⟨m1, k1, a3, a4, a5⟩
      · obtain ⟨x2, b1, b2⟩ := dead_emit a2 (-126)
        rw [dead_U (dead_ne a2), Option.bind_some, b1, Option.bind_some, bnd_eq]
        exact ⟨_, rfl, Or.inl (dead_27 b2 _)⟩
      · obtain ⟨x2, b1, b2⟩ := hU (kk + 1) σ x1 m1 _ _ k1 a4 h1 (fun _ => Or.inl (by omega)) (by
          show 5 * (10 - (1 + nsum (List.replicate kk 18 ++ σ))) + 2 ≤ n' + 1
          omega)
        rw [b1, Option.bind_some]
        rcases b2 with b2 | ⟨m2, z, T2, q2, b3, b4, b5⟩
        · obtain ⟨x3, d1, d2⟩ := dead_emit b2 (-126)
          rw [d1, Option.bind_some, bnd_eq]
          exact ⟨_, rfl, Or.inl (dead_27 (dead_rw d2 a3) _)⟩
        · obtain ⟨x3, d1, d2⟩ := bu_emit b4
          rw [d1, Option.bind_some, bnd_eq]
          exact ⟨_, rfl, Or.inr ⟨m2, z + 1, T2, q2, a3.trans b3, d2, by omega⟩⟩
    · rw [if_neg (fun z => q11 ((kc_is hk (by omega) (b := 11) rfl).mp z) : ¬ kc q = (45 : Int32))]
      have fin : ∀ (it : Int32), (1 ≤ q ∧ q ≤ 4) → (it = if q = 4 then x.1 25 else -(kc q)) → ∃ x', ((f_Reader_emit it x).bind fun s1 => (f_Reader_take s1).bind fun s2 => some s2) = some x' ∧ OKU N p x0 m0 kk σ (T + 1) m x' := by
        intro it hq hit
        obtain ⟨x1, a1, a2⟩ := value_adv h h1 hq hit
        rw [a1, Option.bind_some]
        rcases a2 with ⟨x2, b1, b2⟩ | ⟨x2, m2, k2, b1, b2, b3⟩
        · rw [b1]
          exact ⟨x2, rfl, Or.inl b2⟩
        · rw [b1]
          exact ⟨x2, rfl, Or.inr ⟨m2, _, _, k2, b2, b3, Nat.le_refl _⟩⟩
      by_cases q4 : q = 4
      · rw [if_pos (by rw [q4]; rfl : kc q = (48 : Int32))]
        exact fin (x.1 25) (by omega) (by rw [if_pos q4])
      · rw [if_neg (fun z => q4 ((kc_is hk (by omega) (b := 4) rfl).mp z) : ¬ kc q = (48 : Int32))]
        have hj : (1 ≤ q ∧ q ≤ 3) → ∃ x', Reader_readU_j87 (f_Reader_rd (n' + 1)) x = some x' ∧ OKU N p x0 m0 kk σ (T + 1) m x' := fun hq => by
          unfold Reader_readU_j87
          rw [h24]
          exact fin (-(kc q)) (by omega) (by rw [if_neg q4])
        by_cases q3 : q = 3
        · rw [if_pos (by rw [q3]; rfl : kc q = (100 : Int32))]
          exact hj (by omega)
        · rw [if_neg (fun z => q3 ((kc_is hk (by omega) (b := 3) rfl).mp z) : ¬ kc q = (100 : Int32))]
          by_cases q1 : q = 1
          · rw [if_pos (by rw [q1]; rfl : kc q = (102 : Int32))]
            exact hj (by omega)
          · rw [if_neg (fun z => q1 ((kc_is hk (by omega) (b := 1) rfl).mp z) : ¬ kc q = (102 : Int32))]
            by_cases q2 : q = 2
            · rw [if_pos (by rw [q2]; rfl : kc q = (110 : Int32))]
              exact hj (by omega)
            · rw [if_neg (fun z => q2 ((kc_is hk (by omega) (b := 2) rfl).mp z) : ¬ kc q = (110 : Int32))]
              obtain ⟨x', b1, b2⟩ := part_bad h (by omega) q8 q11 (fun z => by
                rcases h2 z with w | w
                · right
                  obtain ⟨k', rfl⟩ : ∃ k', kk = k' + 1 := ⟨kk - 1, by omega⟩
                  rfl
                · by_cases k0 : kk = 0
                  · subst k0
                    exact Or.inl w
                  · right
                    obtain ⟨k', rfl⟩ : ∃ k', kk = k' + 1 := ⟨kk - 1, by omega⟩
                    rfl)
              rw [b1]
              exact ⟨x', rfl, Or.inl b2⟩
theorem bh_if {N p : Nat} {x0 m0 x m : MS} {σ P : List Nat} {e T q : Nat} (h : Bh N p x0 m0 (7 :: σ) P x m e T q) : ∃ x', f_Reader_emit (-63) x = some x' ∧ Bh N p x0 m0 σ (P ++ [7]) (pf x' 27 (x'.1 27 - 1)) m e T q := by
  obtain ⟨hc, h31, h27, hb⟩ := h
  have hr5 : e + (P ++ 7 :: σ).length ≤ T := hb.2.2.2.2.2.2.2.2.1
  rw [List.length_append] at hr5
  have hr5 : e + (P.length + (σ.length + 1)) ≤ T := hr5
  obtain ⟨c1, c2, c3, c4, c5, c6, c7, c8, c9⟩ := hc
  refine ⟨_, remit_eq (z := e + P.length) (by omega) hb.1 _, ⟨frx_pf (frx_pf (frx_pa c1) (by omega)) (by omega), c2, c3, c4, c5, c6, c7, c8, c9⟩, h31, ?_, ?_⟩
  · rw [pf_at]
    show x.1 27 - 1 = _
    rw [h27]
    show nI (1 + nsum σ) - 1 = nI (nsum σ)
    rw [Nat.add_comm, nI_pred]
  · exact bk_snoc (a := 7) (Or.inl rfl) hb
theorem spe {N p : Nat} {x0 m0 : MS} {n : Nat} (hC : SPC N p x0 m0 n) (hE : SPE N p x0 m0 n) : SPE N p x0 m0 (n + 1) := by
  intro σ x m e T q h h1 h2 hf
  obtain ⟨n', rfl⟩ : ∃ n', n = n' + 1 := ⟨n - 1, by omega⟩
  obtain ⟨hc, -, -, -, -, hri⟩ := id h
  have hk := hc.2.2.2.2.2.1.2.2.1
  have h24 := hc.2.2.2.2.2.1.2.2.2.2.1
  rw [rd_0]
  unfold b_f_Reader_readE
  rw [if_pos hc.2.2.2.1, h24]
  by_cases q5 : q = 5
  · rw [if_pos (by rw [q5]; rfl : kc q = (26982 : Int32))]
    obtain ⟨x1, a1, a2⟩ := open_adv (a := 5) h (Or.inr (Or.inr ⟨q5, rfl, h1, h2⟩))
    rw [a1, Option.bind_some]
    rcases a2 with a2 | ⟨m1, k1, a3, a4, a5⟩
    · obtain ⟨x2, b1, b2⟩ := dead_emit a2 (-63)
      have dn := dead_ne a2
      rw [dead_E dn, Option.bind_some, dead_expect dn, Option.bind_some, dead_E dn, Option.bind_some, dead_expect dn, Option.bind_some, dead_E dn, Option.bind_some, b1, Option.bind_some, bnd_eq]
      exact ⟨_, rfl, Or.inl (dead_27 b2 _)⟩
    · have fuel : ∀ a, nst a = 1 → 5 * (10 - nsum (a :: σ)) + 6 ≤ n' + 1 := fun a ha => by
        show 5 * (10 - (nst a + nsum σ)) + 6 ≤ n' + 1
        omega
      obtain ⟨x2, b1, b2⟩ := hE (5 :: σ) x1 m1 _ _ k1 a4 (show rk 5 = 0 by decide) (show 5 ≠ 18 by decide) (fuel 5 (by decide))
      rw [b1, Option.bind_some]
      rcases b2 with b2 | ⟨m2, P2, e2, T2, q2, b3, b4, b5, b6⟩
      · obtain ⟨x3, d1, d2⟩ := dead_emit b2 (-63)
        have dn := dead_ne b2
        rw [dead_expect dn, Option.bind_some, dead_E dn, Option.bind_some, dead_expect dn, Option.bind_some, dead_E dn, Option.bind_some, d1, Option.bind_some, bnd_eq]
        exact ⟨_, rfl, Or.inl (dead_27 (dead_rw d2 a3) _)⟩
      · obtain ⟨x3, d1, d2⟩ := exp_then b4 b5 (w := 6) (Or.inl ⟨rfl, rfl⟩)
        rw [show (1952998766 : Int32) = kc 6 from rfl, d1, Option.bind_some]
        rcases d2 with d2 | ⟨m3, e3, k3, d3, d4⟩
        · obtain ⟨x4, f1, f2⟩ := dead_emit d2 (-63)
          have dn := dead_ne d2
          rw [dead_E dn, Option.bind_some, dead_expect dn, Option.bind_some, dead_E dn, Option.bind_some, f1, Option.bind_some, bnd_eq]
          exact ⟨_, rfl, Or.inl (dead_27 (dead_rw (dead_rw f2 b3) a3) _)⟩
        · have r3 := a3.trans (b3.trans d3)
          obtain ⟨x4, g1, g2⟩ := hE (6 :: σ) x3 m3 _ _ k3 d4 (show rk 6 = 0 by decide) (show 6 ≠ 18 by decide) (fuel 6 (by decide))
          rw [g1, Option.bind_some]
          rcases g2 with g2 | ⟨m4, P4, e4, T4, q4, g3, g4, g5, g6⟩
          · obtain ⟨x5, f1, f2⟩ := dead_emit g2 (-63)
            have dn := dead_ne g2
            rw [dead_expect dn, Option.bind_some, dead_E dn, Option.bind_some, f1, Option.bind_some, bnd_eq]
            exact ⟨_, rfl, Or.inl (dead_27 (dead_rw f2 r3) _)⟩
          · obtain ⟨x5, i1, i2⟩ := exp_then g4 g5 (w := 7) (Or.inr ⟨rfl, rfl⟩)
            rw [show (1701606245 : Int32) = kc 7 from rfl, i1, Option.bind_some]
            rcases i2 with i2 | ⟨m5, e5, k5, i3, i4⟩
            · obtain ⟨x6, f1, f2⟩ := dead_emit i2 (-63)
              have dn := dead_ne i2
              rw [dead_E dn, Option.bind_some, f1, Option.bind_some, bnd_eq]
              exact ⟨_, rfl, Or.inl (dead_27 (dead_rw (dead_rw f2 g3) r3) _)⟩
            · have r5 := r3.trans (g3.trans i3)
              obtain ⟨x6, j1, j2⟩ := hE (7 :: σ) x5 m5 _ _ k5 i4 (show rk 7 = 0 by decide) (show 7 ≠ 18 by decide) (fuel 7 (by decide))
              rw [j1, Option.bind_some]
              rcases j2 with j2 | ⟨m6, P6, e6, T6, q6, j3, j4, j5, j6⟩
              · obtain ⟨x7, f1, f2⟩ := dead_emit j2 (-63)
                rw [f1, Option.bind_some, bnd_eq]
                exact ⟨_, rfl, Or.inl (dead_27 (dead_rw f2 r5) _)⟩
              · obtain ⟨x7, f1, f2⟩ := bh_if j4
                rw [f1, Option.bind_some, bnd_eq]
                refine ⟨_, rfl, Or.inr ⟨m6, P6 ++ [7], e6, T6, q6, r5.trans j3, f2, ⟨j5.1, fun z => ?_⟩, by omega⟩⟩
                obtain ⟨P1, a, P2', w1, w2, w3⟩ := j5.2 z
                exact ⟨P1, a, P2' ++ [7], by rw [w1, List.append_assoc]; rfl, w2, w3⟩
  · rw [if_neg (fun z => q5 ((kc_is hk (by omega) (b := 5) rfl).mp z) : ¬ kc q = (26982 : Int32))]
    obtain ⟨x', b1, b2⟩ := hC σ x m e T q h h1 h2 q5 (by omega)
    rw [b1]
    exact ⟨x', rfl, b2⟩
theorem sp_all {N p : Nat} {x0 m0 : MS} : ∀ n, SPU N p x0 m0 n ∧ SPT N p x0 m0 n ∧ SPS N p x0 m0 n ∧ SPC N p x0 m0 n ∧ SPE N p x0 m0 n
  | 0 => ⟨fun _ _ _ _ _ _ _ _ _ _ h => by omega, fun _ _ _ _ _ _ _ _ _ _ h => by omega, fun _ _ _ _ _ _ _ _ _ _ h => by omega, fun _ _ _ _ _ _ _ _ _ _ h => by omega, fun _ _ _ _ _ _ _ _ _ h => by omega⟩
  | n + 1 => by
    obtain ⟨h1, h2, h3, h4, h5⟩ := sp_all (N := N) (p := p) (x0 := x0) (m0 := m0) n
    exact ⟨spu h1 h5, spt h1, sps h2, spc h3, spe h4 h5⟩
