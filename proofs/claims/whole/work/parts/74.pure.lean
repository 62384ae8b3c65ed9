theorem sim_row {x0 m0 : MS} {n B : Nat} {own : Nat → Nat} {al sh : Nat → Nat → Prop} (hX : WKx x0 n B own al sh) (hM : WKm m0 n B own al sh) (hn : n ≤ 12) (hB : B ≤ 10) (hown : ∀ k, k < n → own k < 10) {k : Nat} (hk : k < n) {rc : Int32 → Int32 → MS → Option MS} (hch : CH x0 m0 n B own rc k) {c : Nat → Nat} :
    ∀ (e b : Nat), b + e = B → ∀ (t f : Nat) (x m : MS), FXd x0 x → FMd m0 m → WD n B k c t f x m → m.2 15 k = pI b →
    ∃ x', loop (fun z => Walk_putFrom_l33 rc (nI k) (nI (mvn c own k)) z.1 z.2) (nI b, x) = some x' ∧ FXd x0 x' ∧ ((x'.1 9 = nI 50001 ∧ ∃ m', WL (nI k, m) = some (0, m') ∧ FMd m0 m') ∨ ∃ (t' f' : Nat) (m' : MS), WL (nI k, m) = WL (pI k, m') ∧ FMd m0 m' ∧ WD n B k c t' f' x' m')
  | 0, b, hb, t, f, x, m, hx, hm, hd, h15 => by
    have hb : b = B := hb
    subst hb
    obtain ⟨X1, X2, X3, X4, X5⟩ := id hX
    obtain ⟨M1, M2, M3, M4⟩ := id hM
    have x7 : x.1 7 = nI b := (hx.1 7 (by omega) (by omega)).trans X2
    have m1 : m.1 1 = nI b := (hm.1 1 (by omega) (by omega)).trans M2
    have h12 : inb (nI k) 12 = true := ib_nI (by omega) (by omega)
    refine ⟨x, ?_, hx, Or.inr ⟨t, f, pa m 15 k (nI b), ?_, fmd_pa hm (Or.inl rfl), ?_⟩⟩
    · refine loop_inr ?_
      show Walk_putFrom_l33 rc (nI k) (nI (mvn c own k)) (nI b) x = _
      unfold Walk_putFrom_l33
      rw [x7, if_pos (Int32.le_refl _)]
      rfl
    · rw [WL_eq]
      unfold Md_walk_l32
      rw [if_neg (nI_pos (by omega)), chk_t h12, bnd_eq, nI_clamp (n := k) (by omega), h15, pI_1 (by omega), chk_t h12, bnd_eq, chk_t h12, bnd_eq, pa_at, show (pa m 15 k (nI b)).1 1 = nI b from m1, if_neg (nI_nlt (Nat.le_refl b) (by omega)), bnd_eq, pI_add (by omega)]
      rfl
    · obtain ⟨d1, d2, d3, d4, d5, d6, d7, d8, d9⟩ := hd
      refine ⟨d1, d2, d3, d4, d5, d6, d7, fun j hj => ?_, d9⟩
      show x.2 23 j = nI (c j) ∧ upd (m.2 15) k (nI b) j = nI (c j) ∧ c j < b
      rw [pk_un (by omega)]
      exact d8 j hj
  | e + 1, b, hb, t, f, x, m, hx, hm, hd, h15 => by
    obtain ⟨X1, X2, X3, X4, X5⟩ := id hX
    obtain ⟨M1, M2, M3, M4⟩ := id hM
    obtain ⟨d1, d2, d3, d4, d5, d6, d7, d8, d9⟩ := id hd
    have hbB : b < B := by omega
    have x7 : x.1 7 = nI B := (hx.1 7 (by omega) (by omega)).trans X2
    have m1 : m.1 1 = nI B := (hm.1 1 (by omega) (by omega)).trans M2
    have x24 : x.2 24 = x0.2 24 := hx.2 24 (by omega) (by omega) (by omega)
    have x25 : x.2 25 = x0.2 25 := hx.2 25 (by omega) (by omega) (by omega)
    have x20 : x.2 20 = x0.2 20 := hx.2 20 (by omega) (by omega) (by omega)
    have h12 : inb (nI k) 12 = true := ib_nI (by omega) (by omega)
    have h10 : inb (nI b) 10 = true := ib_nI (by omega) (by omega)
    have n1 : ¬ nI B ≤ nI b := nI_ge hbB (by omega)
    have ho := hown k hk
    -- the reference's next berth
    obtain ⟨s2, hs2⟩ : ∃ s2, s2 = pa m 15 k (nI b) := ⟨_, rfl⟩
    have F2 : FMd m0 s2 := by rw [hs2]; exact fmd_pa hm (Or.inl rfl)
    have r15 : s2.2 15 = upd (m.2 15) k (nI b) := by rw [hs2]; rfl
    have r16 : s2.2 16 = m.2 16 := by rw [hs2]; rfl
    have r6 : s2.1 6 = m.1 6 := by rw [hs2]; rfl
    have r7 : s2.1 7 = nI t := by rw [hs2]; exact d3
    have r1 : s2.1 1 = nI B := by rw [hs2]; exact m1
    have c15 : ∀ j, j < k → s2.2 15 j = nI (c j) ∧ c j < B := fun j hj => by
      rw [r15, pk_un (by omega)]
      exact (d8 j hj).2
    have hT := M4 s2 c k b F2 hk hbB c15
    have hWL : WL (nI k, m) = ((f_Md_isTry (nI k) (nI b) s2).bind fun v5 => if v5 = 0 then (some (.inl (nI k, s2))) else (if (s2.1 7) = (50000 : Int32) then (xit (some ((0 : Int32), s2))) else (bnd (pf s2 7 ((s2.1 7) + (1 : Int32))) fun s6 => if (s6.1 6) < 0 then (Md_walk_j125 (nI k) s6) else ((f_Md_movesTo (nI k) s6).bind fun v7 => if v7 < (s6.1 6) then (Md_walk_j125 (nI k) s6) else (some (.inl (nI k, s6))))))).bind (Sum.elim WL some) := by
      rw [WL_eq]
      unfold Md_walk_l32
      rw [if_neg (nI_pos (by omega)), chk_t h12, bnd_eq, nI_clamp (n := k) (by omega), h15, pI_1 (by omega), chk_t h12, bnd_eq, chk_t h12, bnd_eq, pa_at, ← hs2, r1, if_pos (nI_lt hbB (by omega)), chk_t h12, bnd_eq]
    have next : ∀ (t' f' : Nat) (x' m' : MS), FXd x0 x' → FMd m0 m' → WD n B k c t' f' x' m' → m'.2 15 k = pI (b + 1) → loop (fun z => Walk_putFrom_l33 rc (nI k) (nI (mvn c own k)) z.1 z.2) (nI b, x) = loop (fun z => Walk_putFrom_l33 rc (nI k) (nI (mvn c own k)) z.1 z.2) (nI (b + 1), x') → WL (nI k, m) = WL (nI k, m') → ∃ x', loop (fun z => Walk_putFrom_l33 rc (nI k) (nI (mvn c own k)) z.1 z.2) (nI b, x) = some x' ∧ FXd x0 x' ∧ ((x'.1 9 = nI 50001 ∧ ∃ m', WL (nI k, m) = some (0, m') ∧ FMd m0 m') ∨ ∃ (t' f' : Nat) (m' : MS), WL (nI k, m) = WL (pI k, m') ∧ FMd m0 m' ∧ WD n B k c t' f' x' m') := by
      intro t' f' x' m' q1 q2 q3 q4 q5 q6
      rw [q5, q6]
      exact sim_row hX hM hn hB hown hk hch e (b + 1) (by omega) t' f' x' m' q1 q2 q3 q4
    -- the class's next berth
    have hbits : (x.2 26 b &&& x0.2 25 k = 0) ↔ ∀ j, j < k → c j = b → ¬ sh j k := by
      rw [b_z]
      constructor
      · intro q j hj hcj hs
        have q1 := q j (by omega)
        rw [b_and, d9 b (by omega) j (by omega), decide_eq_true ⟨hj, hcj⟩, (X5 k hk j hj).mpr hs] at q1
        exact absurd q1 (by decide)
      · intro q i hi
        rw [b_and, d9 b (by omega) i hi]
        by_cases z : i < k ∧ c i = b
        · have hns := q i z.1 z.2
          cases w : bt (x0.2 25 k) i with
          | false => rw [Bool.and_false]
          | true => exact absurd ((X5 k hk i z.1).mp w) hns
        · rw [decide_eq_false z, Bool.false_and]
    have hsp : f_Walk_isSpent x = some 0 := by
      unfold f_Walk_isSpent
      rw [d1, if_pos (nsp d2)]
    by_cases hTry : al k b ∧ ∀ j, j < k → c j = b → ¬ sh j k
    · have hbit : ¬ ((x0.2 24 k >>> (nI b &&& 31)) &&& (1 : Int32)) = 0 := fun q => by
        have := (b_test (by omega)).mp q
        rw [(X4 k hk b hbB).mpr hTry.1] at this
        exact absurd this (by decide)
      have hz := hbits.mpr hTry.2
      obtain ⟨x6, hx6⟩ : ∃ x6, x6 = pf x 9 (nI (t + 1)) := ⟨_, rfl⟩
      have FX6 : FXd x0 x6 := by rw [hx6]; exact fxd_pf hx (Or.inr rfl)
      have y9 : x6.1 9 = nI (t + 1) := by rw [hx6]; exact pf_at _ _ _
      have y8 : x6.1 8 = nI f := by rw [hx6]; exact d4
      have yr : x6.2 = x.2 := by rw [hx6]; rfl
      obtain ⟨mv2, hmv2⟩ : ∃ v, v = mvn (upN c k b) own (k + 1) := ⟨_, rfl⟩
      have hmv3 := mvn_up (c := c) (own := own) (k := k) (b := b)
      rw [← hmv2] at hmv3
      have hmle := mvn_le c own k
      have hcl : loop (fun z => Walk_putFrom_l33 rc (nI k) (nI (mvn c own k)) z.1 z.2) (nI b, x) = (Walk_putFrom_j107 rc (nI k) (nI (mvn c own k)) (nI b) (nI mv2) x6).bind (Sum.elim (loop (fun z => Walk_putFrom_l33 rc (nI k) (nI (mvn c own k)) z.1 z.2)) some) := by
        rw [loop_eq]
        show (Walk_putFrom_l33 rc (nI k) (nI (mvn c own k)) (nI b) x).bind _ = _
        congr 1
        unfold Walk_putFrom_l33
        rw [x7, if_neg n1, hsp, Option.bind_some, if00, chk_t h12, bnd_eq, nI_clamp (n := k) (by omega), x24, if_neg hbit, chk_t h10, bnd_eq, chk_t h12, bnd_eq, nI_clamp (n := b) (by omega), x25, if_pos hz, bnd_eq, chk_t h12, bnd_eq, d1, nI_1, ← hx6, yr, x20, X3 k hk]
        by_cases eo : b = own k
        · rw [if_pos (by rw [eo] : nI b = nI (own k)), hmv3, if_pos eo]
          rfl
        · rw [if_neg (fun q => eo ((nI_eq (by omega) (by omega)).mp q)), hmv3, if_neg eo, nI_1]
      rw [hT.1 hTry, Option.bind_some, if10, r7] at hWL
      by_cases ht : t = 50000
      · -- spent
        have e9 : x6.1 9 = nI 50001 := by rw [y9, ht]
        rw [if_pos (by rw [ht]; decide : nI t = (50000 : Int32))] at hWL
        have hj : Walk_putFrom_j107 rc (nI k) (nI (mvn c own k)) (nI b) (nI mv2) x6 = some (.inl (nI (b + 1), x6)) := by
          unfold Walk_putFrom_j107 f_Walk_isSpent
          by_cases q : x6.1 8 ≤ nI mv2
          · rw [if_pos q, bnd_eq, nI_1]
          · rw [if_neg q, e9, if_neg (by decide : ¬ nI 50001 ≤ (50000 : Int32)), Option.bind_some, if10, bnd_eq, nI_1]
        rw [hj] at hcl
        refine ⟨x6, ?_, FX6, Or.inl ⟨e9, s2, hWL, F2⟩⟩
        rw [hcl]
        exact spent_exit e9
      · rw [if_neg (fun q => by
          rw [fa_eq, nI_toInt (by omega)] at q
          have q : (t : Int) = 50000 := q
          omega : ¬ nI t = (50000 : Int32)), bnd_eq, nI_1] at hWL
        obtain ⟨s6, hs6⟩ : ∃ s6, s6 = pf s2 7 (nI (t + 1)) := ⟨_, rfl⟩
        rw [← hs6] at hWL
        have F6 : FMd m0 s6 := by rw [hs6]; exact fmd_pf F2 (Or.inr rfl)
        have u7 : s6.1 7 = nI (t + 1) := by rw [hs6]; exact pf_at _ _ _
        have u6 : s6.1 6 = m.1 6 := by rw [hs6]; exact r6
        have u15 : s6.2 15 = upd (m.2 15) k (nI b) := by rw [hs6]; exact r15
        have u16 : s6.2 16 = m.2 16 := by rw [hs6]; exact r16
        have c6 : ∀ j, j < k + 1 → s6.2 15 j = nI (upN c k b j) ∧ upN c k b j < B := fun j hj => by
          rw [u15]
          by_cases ej : j = k
          · rw [ej, pk_us, upN_s]; exact ⟨rfl, hbB⟩
          · rw [pk_un ej, upN_n ej]
            exact (d8 j (by omega)).2
        have hmt : f_Md_movesTo (nI k) s6 = some (nI mv2) := by
          have := mto_eq hM hn hB hown F6 (c := upN c k b) (k := k + 1) (by omega) c6
          rw [← hmv2] at this
          exact this
        have hgo : (if s6.1 6 < 0 then (Md_walk_j125 (nI k) s6) else ((f_Md_movesTo (nI k) s6).bind fun v7 => if v7 < (s6.1 6) then (Md_walk_j125 (nI k) s6) else (some (.inl (nI k, s6))))) = if mv2 < f then Md_walk_j125 (nI k) s6 else some (.inl (nI k, s6)) := by
          rw [u6, d6]
          have hm2 : mv2 ≤ k + 1 := by rw [hmv2]; exact mvn_le _ _ _
          by_cases q : f = 13
          · rw [if_pos q, if_pos m1_neg, if_pos (by omega)]
          · rw [if_neg q, if_neg (nI_pos (by omega)), hmt, Option.bind_some]
            by_cases q2 : mv2 < f
            · rw [if_pos q2, if_pos (nI_lt q2 (by omega))]
            · rw [if_neg q2, if_neg (nI_nlt (by omega) (by omega))]
        rw [hgo] at hWL
        have hm2 : mv2 ≤ k + 1 := by rw [hmv2]; exact mvn_le _ _ _
        by_cases q2 : mv2 < f
        · rw [if_pos q2] at hWL
          obtain ⟨y, hy⟩ : ∃ y, y = pa (pa x6 23 k (nI b)) 26 b (x.2 26 b ||| ((1 : Int32) <<< (nI k &&& 31))) := ⟨_, rfl⟩
          have FY : FXd x0 y := by rw [hy]; exact fxd_pa (fxd_pa FX6 (Or.inr (Or.inl rfl))) (Or.inr (Or.inr rfl))
          have z26 : y.2 26 = upd (x.2 26) b (x.2 26 b ||| ((1 : Int32) <<< (nI k &&& 31))) := by rw [hy, ← yr]; rfl
          have z23 : y.2 23 = upd (x.2 23) k (nI b) := by rw [hy, ← yr]; rfl
          have z19 : y.2 19 = x.2 19 := by rw [hy, ← yr]; rfl
          have z9 : y.1 9 = nI (t + 1) := by rw [hy]; exact y9
          have z8 : y.1 8 = nI f := by rw [hy]; exact y8
          have hWD : WD n B (k + 1) (upN c k b) (t + 1) f y s6 := by
            refine ⟨z9, by omega, u7, z8, d5, by rw [u6]; exact d6, fun q j hj => by rw [z19, u16]; exact d7 q j hj, fun j hj => ⟨?_, c6 j hj⟩, fun b2 hb2 i hi => ?_⟩
            · rw [z23]
              by_cases ej : j = k
              · rw [ej, pk_us, upN_s]
              · rw [pk_un ej, upN_n ej]
                exact (d8 j (by omega)).1
            · rw [z26]
              by_cases eb : b2 = b
              · rw [eb, pk_us, b_set (by omega) hi, d9 b (by omega) i hi, w_bits]
              · rw [pk_un eb, d9 b2 hb2 i hi, w_bits2 eb]
          obtain ⟨y', k1, k2, k3⟩ := hch (upN c k b) (t + 1) f y s6 FY F6 hWD (by rw [← hmv2]; exact q2)
          rw [← hmv2] at k1
          obtain ⟨z, hz2⟩ : ∃ z, z = pa y' 26 b (y'.2 26 b &&& (((1 : Int32) <<< (nI k &&& 31)) ^^^ (-1 : Int32))) := ⟨_, rfl⟩
          have FZ : FXd x0 z := by rw [hz2]; exact fxd_pa k2 (Or.inr (Or.inr rfl))
          have hj : Walk_putFrom_j107 rc (nI k) (nI (mvn c own k)) (nI b) (nI mv2) x6 = some (.inl (nI (b + 1), z)) := by
            unfold Walk_putFrom_j107 f_Walk_isSpent
            have e26 : (pa x6 23 k (nI b)).2 26 = x.2 26 := by
              show x6.2 26 = x.2 26
              rw [yr]
            rw [y8, if_neg (nI_ge q2 (by omega)), y9, if_pos (nsp (by omega)), Option.bind_some, if00]
            simp only [chk_t h12, chk_t h10, bnd_eq, nI_clamp (show k < 2 ^ 31 by omega), nI_clamp (show b < 2 ^ 31 by omega), nI_1]
            rw [e26, ← hy, k1, Option.bind_some, ← hz2]
          rw [hj] at hcl
          rcases k3 with ⟨w1, m', w2, w3⟩ | ⟨t', f', m', w2, w3, w4⟩
          · have e9 : z.1 9 = nI 50001 := by rw [hz2]; exact w1
            refine ⟨z, ?_, FZ, Or.inl ⟨e9, m', ?_, w3⟩⟩
            · rw [hcl]
              exact spent_exit e9
            · rw [hWL]; exact w2
          · obtain ⟨g1, g2, g3, g4, g5, g6, g7, g8, g9⟩ := id w4
            refine next t' f' z m' FZ w3 ?_ ?_ hcl (hWL.trans w2)
            · have z26' : z.2 26 = upd (y'.2 26) b (y'.2 26 b &&& (((1 : Int32) <<< (nI k &&& 31)) ^^^ (-1 : Int32))) := by rw [hz2]; rfl
              have z19' : z.2 19 = y'.2 19 := by rw [hz2]; rfl
              have z23' : z.2 23 = y'.2 23 := by rw [hz2]; rfl
              refine ⟨by rw [hz2]; exact g1, g2, g3, by rw [hz2]; exact g4, g5, g6, fun q j hj => by rw [z19']; exact g7 q j hj, fun j hj => ?_, fun b2 hb2 i hi => ?_⟩
              · have := g8 j (by omega)
                rw [upN_n (by omega)] at this
                rw [z23']
                exact this
              · rw [z26']
                by_cases eb : b2 = b
                · rw [eb, pk_us, b_clr (by omega) hi, g9 b (by omega) i hi, w_bits]
                  by_cases ei : i = k
                  · rw [decide_eq_true ei, decide_eq_false (fun q => by omega)]; rfl
                  · rw [decide_eq_false ei, Bool.or_false]
                    cases decide (i < k ∧ c i = b) <;> rfl
                · rw [pk_un eb, g9 b2 hb2 i hi, w_bits2 eb]
            · rw [(g8 k (by omega)).2.1, upN_s]
              rfl
        · rw [if_neg q2] at hWL
          have hj : Walk_putFrom_j107 rc (nI k) (nI (mvn c own k)) (nI b) (nI mv2) x6 = some (.inl (nI (b + 1), x6)) := by
            unfold Walk_putFrom_j107
            rw [y8, if_pos (nI_le (by omega) (by omega)), bnd_eq, nI_1]
          rw [hj] at hcl
          refine next (t + 1) f x6 s6 FX6 F6 ⟨y9, by omega, u7, y8, d5, by rw [u6]; exact d6, fun q j hj => by rw [yr, u16]; exact d7 q j hj, fun j hj => ?_, fun b2 hb2 i hi => by rw [yr]; exact d9 b2 hb2 i hi⟩ (by rw [u15, pk_us]; rfl) hcl hWL
          have := c6 j (by omega)
          rw [upN_n (by omega)] at this
          rw [yr]
          exact ⟨(d8 j hj).1, this.1, this.2⟩
    · rw [hT.2 hTry, Option.bind_some, if00] at hWL
      refine next t f x s2 hx F2 ⟨d1, d2, r7, d4, d5, by rw [r6]; exact d6, fun q j hj => by rw [r16]; exact d7 q j hj, fun j hj => ⟨(d8 j hj).1, c15 j hj⟩, d9⟩ (by rw [r15, pk_us]; rfl) (loop_inl ?_) hWL
      show Walk_putFrom_l33 rc (nI k) (nI (mvn c own k)) (nI b) x = _
      unfold Walk_putFrom_l33
      rw [x7, if_neg n1, hsp, Option.bind_some, if00, chk_t h12, bnd_eq, nI_clamp (n := k) (by omega), x24]
      by_cases q1 : ((x0.2 24 k >>> (nI b &&& 31)) &&& (1 : Int32)) = 0
      · rw [if_pos q1, bnd_eq, nI_1]
      · have hal : al k b := by
          refine (X4 k hk b hbB).mp ?_
          cases w : bt (x0.2 24 k) b with
          | true => rfl
          | false => exact absurd ((b_test (by omega)).mpr w) q1
        rw [if_neg q1, chk_t h10, bnd_eq, chk_t h12, bnd_eq, nI_clamp (n := b) (by omega), x25, if_neg (fun z => hTry ⟨hal, hbits.mp z⟩), bnd_eq, nI_1]
def SIM (x0 m0 : MS) (n B : Nat) (own : Nat → Nat) (fuel k : Nat) : Prop :=
  ∀ (c : Nat → Nat) (t f : Nat) (x m : MS), FXd x0 x → FMd m0 m → WD n B k c t f x m →
    ∃ x', f_Walk_putFrom fuel (nI k) (nI (mvn c own k)) x = some x' ∧ FXd x0 x' ∧ ((x'.1 9 = nI 50001 ∧ ∃ m', WL (nI k, pa m 15 k (-1)) = some (0, m') ∧ FMd m0 m') ∨ ∃ (t' f' : Nat) (m' : MS), WL (nI k, pa m 15 k (-1)) = WL (pI k, m') ∧ FMd m0 m' ∧ WD n B k c t' f' x' m')
theorem sim_lv {x0 m0 : MS} {n B : Nat} {own : Nat → Nat} {al sh : Nat → Nat → Prop} (hX : WKx x0 n B own al sh) (hM : WKm m0 n B own al sh) (hn : n ≤ 12) (hB : B ≤ 10) (hown : ∀ k, k < n → own k < 10) {k : Nat} (hk : k < n) {fuel : Nat} (hch : CH x0 m0 n B own (f_Walk_putFrom fuel) k) : SIM x0 m0 n B own (fuel + 1) k := by
  intro c t f x m hx hm hd
  have x6 : x.1 6 = nI n := (hx.1 6 (by omega) (by omega)).trans hX.1
  show ∃ x', b_f_Walk_putFrom (f_Walk_putFrom fuel) (nI k) (nI (mvn c own k)) x = some x' ∧ _
  unfold b_f_Walk_putFrom
  rw [x6, if_pos (nI_lt hk (by omega)), ← nI_0]
  obtain ⟨d1, d2, d3, d4, d5, d6, d7, d8, d9⟩ := id hd
  refine sim_row hX hM hn hB hown hk hch B 0 (by omega) t f x (pa m 15 k (-1)) hx (fmd_pa hm (Or.inl rfl)) ⟨d1, d2, d3, d4, d5, d6, d7, fun j hj => ?_, d9⟩ (pa_at _ _ _ _)
  show x.2 23 j = nI (c j) ∧ upd (m.2 15) k (-1) j = nI (c j) ∧ c j < B
  rw [pk_un (by omega)]
  exact d8 j hj
theorem ch_leaf {x0 m0 : MS} {n B : Nat} {own : Nat → Nat} {al sh : Nat → Nat → Prop} (hX : WKx x0 n B own al sh) (hM : WKm m0 n B own al sh) (hn : n ≤ 12) (hB : B ≤ 10) (hown : ∀ k, k < n → own k < 10) {k : Nat} (hk : k + 1 = n) {fuel : Nat} : CH x0 m0 n B own (f_Walk_putFrom (fuel + 1)) k := by
  subst hk
  intro c t f y s hy hs hd hlt
  obtain ⟨d1, d2, d3, d4, d5, d6, d7, d8, d9⟩ := id hd
  have y6 : y.1 6 = nI (k + 1) := (hy.1 6 (by omega) (by omega)).trans hX.1
  have s5 : s.1 5 = nI (k + 1) := (hs.1 5 (by omega) (by omega)).trans hM.1
  obtain ⟨mv2, hmv2⟩ : ∃ v, v = mvn c own (k + 1) := ⟨_, rfl⟩
  have hkp := keep_eq hM hn hB hown hs (c := c) (fun j hj => (d8 j hj).2)
  rw [← hmv2] at hkp
  rw [← hmv2] at hlt ⊢
  have hcls : f_Walk_putFrom (fuel + 1) (nI (k + 1)) (nI mv2) y = some (pr (pf y 8 (nI mv2)) 19 (va_cpy (y.2 23) (y.2 19) 0 0 (k + 1))) := by
    show b_f_Walk_putFrom (f_Walk_putFrom fuel) (nI (k + 1)) (nI mv2) y = _
    unfold b_f_Walk_putFrom
    have e2 : (pf y 8 (nI mv2)).1 6 = nI (k + 1) := y6
    have hck : decide (0 ≤ (0 : Int32).toInt ∧ 0 ≤ (0 : Int32).toInt ∧ 0 ≤ (nI (k + 1)).toInt ∧ (0 : Int32).toInt + (nI (k + 1)).toInt ≤ (12 : Int) ∧ (0 : Int32).toInt + (nI (k + 1)).toInt ≤ (12 : Int)) = true := by
      refine decide_eq_true ?_
      rw [nI_toInt (by omega)]
      show (0 : Int) ≤ 0 ∧ (0 : Int) ≤ 0 ∧ 0 ≤ ((k + 1 : Nat) : Int) ∧ 0 + ((k + 1 : Nat) : Int) ≤ 12 ∧ 0 + ((k + 1 : Nat) : Int) ≤ 12
      omega
    rw [y6, if_neg (nI_nlt (Nat.le_refl _) (by omega)), bnd_eq, e2, chk_t hck, bnd_eq, nI_clamp (n := k + 1) (by omega)]
    rfl
  refine ⟨_, hcls, fxd_pr (fxd_pf hy (Or.inl rfl)) (Or.inl rfl), Or.inr ⟨t, mv2, pr (pf s 6 (nI mv2)) 16 (va_cpy (s.2 15) (s.2 16) 0 0 (k + 1)), ?_, fmd_pr (fmd_pf hs (Or.inl rfl)) (Or.inr rfl), ?_⟩⟩
  · unfold Md_walk_j125
    rw [s5, nI_pred, if_pos rfl, hkp]
    rfl
  · refine ⟨d1, d2, d3, rfl, by omega, ?_, fun _ j hj => ?_, d8, d9⟩
    · show nI mv2 = if mv2 = 13 then -1 else nI mv2
      rw [if_neg (by omega)]
    · show va_cpy (y.2 23) (y.2 19) 0 0 (k + 1) j = va_cpy (s.2 15) (s.2 16) 0 0 (k + 1) j ∧ ∃ b, b < B ∧ va_cpy (s.2 15) (s.2 16) 0 0 (k + 1) j = nI b
      unfold va_cpy
      rw [if_pos (by omega), if_pos (by omega), Nat.zero_add, Nat.sub_zero]
      obtain ⟨g1, g2, g3⟩ := d8 j hj
      exact ⟨g1.trans g2.symm, c j, g3, g2⟩
theorem ch_step {x0 m0 : MS} {n B : Nat} {own : Nat → Nat} {al sh : Nat → Nat → Prop} (hM : WKm m0 n B own al sh) (hn : n ≤ 12) {k : Nat} (hk : k + 1 < n) {fuel : Nat} (hs : SIM x0 m0 n B own fuel (k + 1)) : CH x0 m0 n B own (f_Walk_putFrom fuel) k := by
  intro c t f y s hy hs2 hd hlt
  have s5 : s.1 5 = nI n := (hs2.1 5 (by omega) (by omega)).trans hM.1
  obtain ⟨y', k1, k2, k3⟩ := hs c t f y s hy hs2 hd
  have hj : (Md_walk_j125 (nI k) s).bind (Sum.elim WL some) = WL (nI (k + 1), pa s 15 (k + 1) (-1)) := by
    obtain ⟨n', rfl⟩ : ∃ n', n = n' + 1 := ⟨n - 1, by omega⟩
    unfold Md_walk_j125
    rw [s5, nI_pred, if_neg (fun q => by have := (nI_eq (by omega) (by omega)).mp q; omega), bnd_eq, nI_1, chk_t (ib_nI (by omega) (by omega)), bnd_eq, nI_clamp (n := k + 1) (by omega)]
    rfl
  rw [hj]
  exact ⟨y', k1, k2, k3⟩
theorem sim_all {x0 m0 : MS} {n B : Nat} {own : Nat → Nat} {al sh : Nat → Nat → Prop} (hX : WKx x0 n B own al sh) (hM : WKm m0 n B own al sh) (hn : n ≤ 12) (hB : B ≤ 10) (hown : ∀ k, k < n → own k < 10) : ∀ (d k fuel : Nat), k + d + 1 = n → SIM x0 m0 n B own (fuel + d + 2) k
  | 0, k, fuel, h => sim_lv hX hM hn hB hown (by omega) (ch_leaf hX hM hn hB hown (by omega))
  | d + 1, k, fuel, h => by
    have h1 := sim_all hX hM hn hB hown d (k + 1) fuel (by omega)
    exact sim_lv hX hM hn hB hown (by omega) (ch_step hM hn (by omega) h1)
