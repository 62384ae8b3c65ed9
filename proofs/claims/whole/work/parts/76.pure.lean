-- ===== who is in the walk =====
theorem loop_pair {S T R Q : Type} {f : S → Option (S ⊕ R)} {g : T → Option (T ⊕ Q)} (K : Nat → S → T → Prop) (P : R → Q → Prop) (N : Nat) (hs : ∀ k s t, k < N → K k s t → (∃ s' t', f s = some (.inl s') ∧ g t = some (.inl t') ∧ K (k + 1) s' t') ∨ ∃ r q, f s = some (.inr r) ∧ g t = some (.inr q) ∧ P r q) : ∀ (n k : Nat) (s : S) (t : T), k + n = N → K k s t → (∃ r q, loop f s = some r ∧ loop g t = some q ∧ P r q) ∨ ∃ s' t', K N s' t' ∧ loop f s = loop f s' ∧ loop g t = loop g t'
  | 0, k, s, t, hk, h => by
    have hk : k = N := hk
    subst hk
    exact Or.inr ⟨s, t, h, rfl, rfl⟩
  | n + 1, k, s, t, hk, h => by
    rcases hs k s t (by omega) h with ⟨s', t', h1, h2, h3⟩ | ⟨r, q, h1, h2, h3⟩
    · rcases loop_pair K P N hs n (k + 1) s' t' (by omega) h3 with ⟨r, q, h4, h5, h6⟩ | ⟨s2, t2, h4, h5, h6⟩
      · exact Or.inl ⟨r, q, (loop_inl h1).trans h4, (loop_inl h2).trans h5, h6⟩
      · exact Or.inr ⟨s2, t2, h4, (loop_inl h1).trans h5, (loop_inl h2).trans h6⟩
    · exact Or.inl ⟨r, q, loop_inr h1, loop_inr h2, h3⟩
theorem fill39_eq (s : MS) : f_Ar_fill39 0 s = some (pr s 26 (zr (s.2 26) 10)) := by
  unfold f_Ar_fill39
  have h0 : (((0 : Int32), s) : Int32 × MS) = (fun k : Nat => ((nI k, pr s 26 (zr (s.2 26) k)) : Int32 × MS)) 0 := by
    refine Prod.ext nI_0.symm ?_
    show s = pr s 26 (zr (s.2 26) 0)
    rw [zr_0, pr_self]
  rw [h0]
  refine loop_up (f := fun z => Ar_fill39_l5 0 (10 : Int32) z.1 z.2) (fun k : Nat => ((nI k, pr s 26 (zr (s.2 26) k)) : Int32 × MS)) 10 _ (fun k hk => ?_) ?_
  · show Ar_fill39_l5 0 10 (nI k) (pr s 26 (zr (s.2 26) k)) = some (.inl (nI (k + 1), pr s 26 (zr (s.2 26) (k + 1))))
    unfold Ar_fill39_l5
    have n1 : ¬ (10 : Int32) ≤ nI k := by rw [fa_le, nI_toInt (by omega)]; show ¬ (10 : Int) ≤ (k : Int); omega
    rw [if_neg n1, chk_t (ib_nI hk (by omega)), bnd_eq, bnd_eq, nI_clamp (n := k) (by omega), nI_1, pa_pr, zr_s]
  · show Ar_fill39_l5 0 10 (nI 10) (pr s 26 (zr (s.2 26) 10)) = _
    unfold Ar_fill39_l5
    rw [if_pos (by decide : (10 : Int32) ≤ nI 10)]
    rfl
theorem restart_eq {x : MS} {B : Nat} (hB : B ≤ 10) : ∃ y, f_Walk_restart (nI B) x = some y ∧ FXW x y ∧ y.1 6 = 0 ∧ y.1 7 = nI B ∧ y.1 8 = 13 ∧ y.1 9 = 0 ∧ ∀ b, b < 10 → y.2 26 b = 0 := by
  have n1 : ¬ (10 : Int32) < nI B := by rw [fa_lt, nI_toInt (by omega)]; show ¬ (10 : Int) < (B : Int); omega
  unfold f_Walk_restart
  rw [if_neg n1, bnd_eq, bnd_eq, bnd_eq, bnd_eq, bnd_eq, fill39_eq]
  refine ⟨_, rfl, fxw_pr (fxw_pf (fxw_pf (fxw_pf (fxw_pf (fxw_refl x) (by omega)) (by omega)) (by omega)) (by omega)) (by omega), rfl, rfl, rfl, rfl, fun b hb => ?_⟩
  show zr (x.2 26) 10 b = 0
  unfold zr
  rw [if_pos hb]
theorem add_eq {y : MS} {n : Nat} (h6 : y.1 6 = nI n) (hn : n < 12) (a1 a2 fr en : Int32) : ∃ R : Nat → Int32, f_Walk_add a1 a2 fr en y = some (pf (pr (pa (pa (pa (pa (pa (pa y 18 n a1) 20 n a2) 21 n fr) 22 n en) 24 n 0) 25 n 0) 25 R) 6 (nI (n + 1))) ∧ (∀ i, i ≠ n → R i = y.2 25 i) ∧ ∀ i, i < 32 → (bt (R n) i = true ↔ i < n ∧ (y.2 21 i).toInt < en.toInt ∧ fr.toInt < (y.2 22 i).toInt) := by
  have h12 : inb (nI n) 12 = true := ib_nI (by omega) (by omega)
  obtain ⟨y1, hy1⟩ : ∃ y1, y1 = pa (pa (pa (pa (pa (pa y 18 n a1) 20 n a2) 21 n fr) 22 n en) 24 n 0) 25 n 0 := ⟨_, rfl⟩
  have u6 : y1.1 6 = nI n := by rw [hy1]; exact h6
  have u21 : y1.2 21 = upd (y.2 21) n fr := by rw [hy1]; rfl
  have u22 : y1.2 22 = upd (y.2 22) n en := by rw [hy1]; rfl
  have u25 : y1.2 25 = upd (y.2 25) n 0 := by rw [hy1]; rfl
  have main := loop_inv (f := fun z => Walk_add_l74 fr en z.1 z.2) (fun j z => z.1 = nI j ∧ ∃ R : Nat → Int32, z.2 = pr y1 25 R ∧ (∀ i, i ≠ n → R i = y.2 25 i) ∧ ∀ i, i < 32 → (bt (R n) i = true ↔ i < j ∧ (y.2 21 i).toInt < en.toInt ∧ fr.toInt < (y.2 22 i).toInt)) (fun z => ∃ R : Nat → Int32, z = pf (pr y1 25 R) 6 (nI (n + 1)) ∧ (∀ i, i ≠ n → R i = y.2 25 i) ∧ ∀ i, i < 32 → (bt (R n) i = true ↔ i < n ∧ (y.2 21 i).toInt < en.toInt ∧ fr.toInt < (y.2 22 i).toInt)) n (by
      rintro j ⟨z1, z2⟩ hj ⟨g1, R, g2, g3, g4⟩
      have g1 : z1 = nI j := g1
      have g2 : z2 = pr y1 25 R := g2
      have h12j : inb (nI j) 12 = true := ib_nI (by omega) (by omega)
      have e6 : (pr y1 25 R).1 6 = nI n := u6
      have e21 : (pr y1 25 R).2 21 j = y.2 21 j := by
        show y1.2 21 j = _
        rw [u21, pk_un (by omega)]
      have e22 : (pr y1 25 R).2 22 j = y.2 22 j := by
        show y1.2 22 j = _
        rw [u22, pk_un (by omega)]
      have e25 : (pr y1 25 R).2 25 = R := rfl
      show ∃ s', Walk_add_l74 fr en z1 z2 = some (.inl s') ∧ _
      rw [g1, g2]
      unfold Walk_add_l74
      rw [e6, if_neg (nI_ge hj (by omega)), chk_t h12j, bnd_eq, nI_clamp (n := j) (by omega), e21]
      by_cases c1 : en ≤ y.2 21 j
      · rw [if_pos c1, bnd_eq, nI_1]
        rw [fa_le] at c1
        refine ⟨_, rfl, rfl, R, rfl, g3, fun i hi => (g4 i hi).trans ⟨fun q => ⟨by omega, q.2⟩, fun q => ⟨?_, q.2⟩⟩⟩
        by_cases e : i = j
        · rw [e] at q; omega
        · omega
      · rw [if_neg c1, chk_t h12j, bnd_eq, e22]
        rw [fa_le] at c1
        by_cases c2 : y.2 22 j ≤ fr
        · rw [if_pos c2, bnd_eq, nI_1]
          rw [fa_le] at c2
          refine ⟨_, rfl, rfl, R, rfl, g3, fun i hi => (g4 i hi).trans ⟨fun q => ⟨by omega, q.2⟩, fun q => ⟨?_, q.2⟩⟩⟩
          by_cases e : i = j
          · rw [e] at q; omega
          · omega
        · rw [if_neg c2, chk_t h12, bnd_eq, chk_t h12, bnd_eq, bnd_eq, nI_1, nI_clamp (n := n) (by omega), e25, pa_pr]
          rw [fa_le] at c2
          refine ⟨_, rfl, rfl, _, rfl, fun i hi => by rw [pk_un hi]; exact g3 i hi, fun i hi => ?_⟩
          rw [pk_us, b_set (by omega) hi, Bool.or_eq_true, decide_eq_true_iff, g4 i hi]
          constructor
          · rintro (q | q)
            · exact ⟨by omega, q.2⟩
            · rw [q]; exact ⟨by omega, by omega, by omega⟩
          · rintro ⟨q1, q2⟩
            by_cases e : i = j
            · exact Or.inr e
            · exact Or.inl ⟨by omega, q2⟩) (by
      rintro ⟨z1, z2⟩ ⟨g1, R, g2, g3, g4⟩
      have g1 : z1 = nI n := g1
      have g2 : z2 = pr y1 25 R := g2
      have e6 : (pr y1 25 R).1 6 = nI n := u6
      refine ⟨pf (pr y1 25 R) 6 (nI (n + 1)), ?_, R, rfl, g3, g4⟩
      show Walk_add_l74 fr en z1 z2 = _
      rw [g1, g2]
      unfold Walk_add_l74
      rw [e6, if_pos (Int32.le_refl _), bnd_eq, nI_1]
      rfl) n 0 ((0 : Int32), y1) (by omega) ⟨nI_0.symm, y1.2 25, (pr_self y1 25).symm, fun i hi => by rw [u25, pk_un hi], fun i hi => by
        rw [u25, pk_us, b_0 i hi]
        exact ⟨fun q => absurd q (by decide), fun q => absurd q.1 (by omega)⟩⟩
  obtain ⟨z, h1, R, h2, h3, h4⟩ := main
  refine ⟨R, ?_, h3, h4⟩
  have n1 : nI n < (12 : Int32) := by rw [fa_lt, nI_toInt (by omega)]; show (n : Int) < 12; omega
  unfold f_Walk_add
  simp only [pa_f, h6, if_pos n1, chk_t h12, bnd_eq, nI_clamp (show n < 2 ^ 31 by omega)]
  rw [← hy1, h1, h2]
/-- class and reference agree on who is in the walk -/
def LU (x3 m : MS) (B bo E day i n : Nat) (st : Nat → Nat) (x w : MS) : Prop :=
  FXW x3 x ∧ FMW m w ∧ x.1 6 = nI n ∧ w.1 5 = nI n ∧ n ≤ 12 ∧ x.1 7 = nI B ∧ x.1 8 = 13 ∧ x.1 9 = 0 ∧ (∀ b, b < 10 → x.2 26 b = 0) ∧
  (∀ k, k < n → st k < i ∧ (day : Int) < (m.2 13 (st k)).toInt ∧ x.2 18 k = nI (st k) ∧ w.2 14 k = nI (st k) ∧ x.2 20 k = m.2 11 (st k) ∧ x.2 21 k = m.2 12 (st k) ∧ x.2 22 k = m.2 13 (st k) ∧ (∀ b, b < 32 → (bt (x.2 24 k) b = true ↔ b < B ∧ AL m bo E day (st k) b)) ∧ (∀ j, j < 32 → (bt (x.2 25 k) j = true ↔ j < k ∧ SHr m (st j) (st k)))) ∧
  ∀ j k, j < k → k < n → st j < st k
theorem lineup {x m : MS} (h : Inv x m) {kx day bo E : Nat} (hk : (kx : Int) < (m.1 3).toInt) (hb : x.2 11 kx = nI bo) (hbo : (bo : Int) < (m.1 2).toInt) (h1 : (x.2 12 kx).toInt ≤ (day : Int)) (h2 : (day : Int) < (x.2 13 kx).toInt) (hE : (x.2 13 kx).toInt = (E : Int)) (hday : day < 400) (a1 a3 : Int32) :
    (∃ x' w, f_Hb_lineUp (nI day) (cut x kx day) = some (0, x') ∧ loop (fun z => Md_home_l85 a1 (nI day) a3 z.1 z.2) ((0 : Int32), pf m 5 0) = some (-2, w) ∧ FXW (cut x kx day) x' ∧ FMW m w) ∨
    ∃ n st x' w, f_Hb_lineUp (nI day) (cut x kx day) = some (1, x') ∧ loop (fun z => Md_home_l85 a1 (nI day) a3 z.1 z.2) ((0 : Int32), pf m 5 0) = loop (fun z => Md_home_l85 a1 (nI day) a3 z.1 z.2) (m.1 4, w) ∧ LU (cut x kx day) m (m.1 1).toNatClampNeg bo E day (m.1 4).toNatClampNeg n st x' w := by
  obtain ⟨hL, hB, hO, hH, hS, hT, hK, hC, hW, hP, hR, hU⟩ := id h
  obtain ⟨t1, t2, t3, t4, t5, t6, t7⟩ := id hT
  have t62 := t6.2
  have b42 := hB.2.2.2.1.2
  have o62 := hO.2.2.2.2.2.1.2
  have hbc := cl_ti hB.2.2.2.1.1
  have hbn := cnt_nI hB.2.2.2.1.1
  have htc := cl_ti t6.1
  have htn := cnt_nI t6.1
  obtain ⟨B, hBB⟩ : ∃ B, B = (m.1 1).toNatClampNeg := ⟨_, rfl⟩
  obtain ⟨N, hNN⟩ : ∃ N, N = (m.1 4).toNatClampNeg := ⟨_, rfl⟩
  rw [← hBB] at hbc hbn ⊢
  rw [← hNN] at htc htn ⊢
  obtain ⟨x3, hx3⟩ : ∃ x3, x3 = cut x kx day := ⟨_, rfl⟩
  have y2 : x3.1 2 = nI B := by rw [hx3]; exact hB.1.trans hbn
  have y5 : x3.1 5 = nI N := by rw [hx3]; exact t1.trans htn
  have y14 : x3.2 14 = m.2 10 := by rw [hx3]; exact t2
  have y15 : x3.2 15 = m.2 11 := by rw [hx3]; exact t3
  have y16 : x3.2 16 = m.2 12 := by rw [hx3]; exact t4
  have y17 : x3.2 17 = m.2 13 := by rw [hx3]; exact t5
  rw [← hx3]
  obtain ⟨y, r1, r2, r3, r4, r5, r6, r7⟩ := restart_eq (x := x3) (B := B) (by omega)
  unfold f_Hb_lineUp
  rw [y2, r1, Option.bind_some]
  have hdi : (nI day).toInt = (day : Int) := nI_toInt (by omega)
  have main := loop_pair (f := fun z => Hb_lineUp_l16 (nI day) z.1 z.2) (g := fun z => Md_home_l85 a1 (nI day) a3 z.1 z.2)
    (fun i X Y => X.1 = nI i ∧ Y.1 = nI i ∧ ∃ n st, LU x3 m B bo E day i n st X.2 Y.2)
    (fun r q => r.1 = 0 ∧ q.1 = -2 ∧ FXW x3 r.2 ∧ FMW m q.2) N (by
      rintro i ⟨z1, u⟩ ⟨z2, w⟩ hi ⟨g1, g2, n, st, L1, L2, L3, L4, L5, L6, L7, L8, L9, L10, L11⟩
      have g1 : z1 = nI i := g1
      have g2 : z2 = nI i := g2
      have L1 : FXW x3 u := L1
      have L2 : FMW m w := L2
      have L3 : u.1 6 = nI n := L3
      have L4 : w.1 5 = nI n := L4
      have u5 : u.1 5 = nI N := (L1.1 5 (by omega)).trans y5
      have w4 : w.1 4 = nI N := (L2.1 4 (by omega)).trans htn
      have u17 : u.2 17 = m.2 13 := (L1.2 17 (by omega)).trans y17
      have u16 : u.2 16 = m.2 12 := (L1.2 16 (by omega)).trans y16
      have u15 : u.2 15 = m.2 11 := (L1.2 15 (by omega)).trans y15
      have w13 : w.2 13 = m.2 13 := L2.2 13 (by omega)
      have h40 : inb (nI i) 40 = true := ib_nI (by omega) (by omega)
      have n1 : ¬ nI N ≤ nI i := nI_ge hi (by omega)
      show (∃ s' t', Hb_lineUp_l16 (nI day) z1 u = some (.inl s') ∧ Md_home_l85 a1 (nI day) a3 z2 w = some (.inl t') ∧ _) ∨ ∃ r q, Hb_lineUp_l16 (nI day) z1 u = some (.inr r) ∧ Md_home_l85 a1 (nI day) a3 z2 w = some (.inr q) ∧ _
      rw [g1, g2]
      unfold Hb_lineUp_l16 Md_home_l85
      rw [u5, w4, if_neg n1, if_neg n1]
      simp only [chk_t h40, bnd_eq, nI_clamp (show i < 2 ^ 31 by omega), u17, w13, u16, u15, nI_1]
      by_cases c1 : nI day < m.2 13 i
      · rw [if_pos c1, if_pos c1]
        have c1' := c1
        rw [fa_lt, hdi] at c1'
        have his : (i : Int) < (m.1 4).toInt := by omega
        obtain ⟨p1, p2, p3, p4, p5, p6, p7, p8⟩ := t7 i his
        obtain ⟨f1, f2, f3, f4, f5⟩ := fnt_rng h his c1'
        by_cases c2 : n = 12
        · right
          rw [if_neg (by rw [L3, c2]; decide : ¬ u.1 6 < (12 : Int32)), if_pos (by rw [L4, c2]; decide : w.1 5 = (12 : Int32))]
          exact ⟨((0 : Int32), u), ((-2 : Int32), w), rfl, rfl, rfl, rfl, L1, L2⟩
        · left
          have hn12 : n < 12 := by omega
          rw [if_pos (by rw [L3, fa_lt, nI_toInt (by omega)]; show (n : Int) < 12; omega : u.1 6 < (12 : Int32)), if_neg (by
            rw [L4, fa_eq, nI_toInt (by omega)]
            show ¬ (n : Int) = 12
            omega : ¬ w.1 5 = (12 : Int32))]
          obtain ⟨R, R1, R2, R3⟩ := add_eq (y := u) L3 hn12 (nI i) (m.2 11 i) (m.2 12 i) (m.2 13 i)
          have hfn : (if m.2 12 i < nI day then nI day else m.2 12 i) = nI (fnt m day i) := by
            unfold fnt
            by_cases q : (m.2 12 i).toInt < (day : Int)
            · rw [if_pos q, if_pos (by rw [fa_lt, hdi]; exact q)]
            · rw [if_neg q, if_neg (by rw [fa_lt, hdi]; exact q)]
              exact cnt_nI p6
          obtain ⟨v, hv⟩ : ∃ v, v = pf (pr (pa (pa (pa (pa (pa (pa u 18 n (nI i)) 20 n (m.2 11 i)) 21 n (m.2 12 i)) 22 n (m.2 13 i)) 24 n 0) 25 n 0) 25 R) 6 (nI (n + 1)) := ⟨_, rfl⟩
          rw [← hv] at R1
          have V1 : FXW x3 v := by
            rw [hv]
            exact fxw_pf (fxw_pr (fxw_pa (fxw_pa (fxw_pa (fxw_pa (fxw_pa (fxw_pa L1 (by omega)) (by omega)) (by omega)) (by omega)) (by omega)) (by omega)) (by omega)) (by omega)
          have v6 : v.1 6 = nI (n + 1) := by rw [hv]; exact pf_at _ _ _
          have v24 : v.2 24 = upd (u.2 24) n 0 := by rw [hv]; rfl
          have v2 : v.1 2 = nI B := (V1.1 2 (by omega)).trans y2
          have v14 : v.2 14 = m.2 10 := (V1.2 14 (by omega)).trans y14
          have v17 : v.2 17 = m.2 13 := (V1.2 17 (by omega)).trans y17
          -- the berths allowed
          obtain ⟨q, hq⟩ : ∃ q, q = (m.2 10 i).toNatClampNeg := ⟨_, rfl⟩
          have hqn : m.2 10 i = nI q := by rw [hq]; exact cnt_nI p1
          have hqc : (q : Int) = (m.2 10 i).toInt := by rw [hq]; exact cl_ti p1
          obtain ⟨rr, A1, w', rfl, A, A2, A3, A4⟩ := loop_inv (f := fun z => Hb_lineUp_l109 (nI day) (nI i) (nI (fnt m day i)) z.1 z.2)
            (fun b z => z.1 = nI b ∧ ∃ A : Nat → Int32, z.2 = pr v 24 A ∧ (∀ k, k ≠ n → A k = u.2 24 k) ∧ ∀ c, c < 32 → (bt (A n) c = true ↔ c < b ∧ AL m bo E day i c))
            (fun r => ∃ w', r = .inl (nI (i + 1), w') ∧ ∃ A : Nat → Int32, w' = pr v 24 A ∧ (∀ k, k ≠ n → A k = u.2 24 k) ∧ ∀ c, c < 32 → (bt (A n) c = true ↔ c < B ∧ AL m bo E day i c)) B (by
              rintro b ⟨z1, z2⟩ hbB ⟨g1, A, g2, g3, g4⟩
              have g1 : z1 = nI b := g1
              have g2 : z2 = pr v 24 A := g2
              have hfx : FXW (cut x kx day) (pr v 24 A) := by rw [← hx3]; exact fxw_pr V1 (by omega)
              have hcl := canLie3 h hk hb (by omega) h1 h2 hE hfx (q := q) (p := b) (a := fnt m day i) (e := (m.2 13 i).toNatClampNeg) (by omega) (by omega) f1 f2 f3
              rw [← f4] at hcl
              have hcl : Says (f_Hb_canLie (nI q) (nI b) (nI (fnt m day i)) (m.2 13 i) (pr v 24 A)) (AL m bo E day i b) := by
                unfold AL
                rw [← hq]
                exact hcl
              have e2 : (pr v 24 A).1 2 = nI B := v2
              have e14 : (pr v 24 A).2 14 = m.2 10 := v14
              have e17 : (pr v 24 A).2 17 = m.2 13 := v17
              have e6 : (pr v 24 A).1 6 = nI (n + 1) := v6
              have e24 : (pr v 24 A).2 24 = A := rfl
              show ∃ s', Hb_lineUp_l109 (nI day) (nI i) (nI (fnt m day i)) z1 z2 = some (.inl s') ∧ _
              rw [g1, g2]
              unfold Hb_lineUp_l109
              rw [e2, if_neg (nI_ge hbB (by omega)), chk_t h40, bnd_eq, chk_t h40, bnd_eq, nI_clamp (n := i) (by omega), e14, e17, hqn]
              by_cases ca : AL m bo E day i b
              · rw [hcl.1 ca, Option.bind_some, if10]
                unfold f_Walk_allow
                rw [e6, if_neg (nI_nle (by omega) (by omega)), nI_pred, chk_t (ib_nI (by omega) (by omega)), bnd_eq, chk_t (ib_nI (by omega) (by omega)), bnd_eq, Option.bind_some, bnd_eq, nI_1, nI_clamp (n := n) (by omega), e24, pa_pr]
                refine ⟨_, rfl, rfl, _, rfl, fun k hk => by rw [pk_un hk]; exact g3 k hk, fun c hc => ?_⟩
                rw [pk_us, b_set (by omega) hc, Bool.or_eq_true, decide_eq_true_iff, g4 c hc]
                constructor
                · rintro (z | z)
                  · exact ⟨by omega, z.2⟩
                  · rw [z]; exact ⟨by omega, ca⟩
                · rintro ⟨z1, z2⟩
                  by_cases e : c = b
                  · exact Or.inr e
                  · exact Or.inl ⟨by omega, z2⟩
              · rw [hcl.2 ca, Option.bind_some, if00, bnd_eq, nI_1]
                refine ⟨_, rfl, rfl, A, rfl, g3, fun c hc => (g4 c hc).trans ⟨fun z => ⟨by omega, z.2⟩, fun z => ⟨?_, z.2⟩⟩⟩
                by_cases e : c = b
                · rw [e] at z; exact absurd z.2 ca
                · omega) (by
              rintro ⟨z1, z2⟩ ⟨g1, A, g2, g3, g4⟩
              have g1 : z1 = nI B := g1
              have g2 : z2 = pr v 24 A := g2
              have e2 : (pr v 24 A).1 2 = nI B := v2
              refine ⟨.inl (nI (i + 1), pr v 24 A), ?_, pr v 24 A, rfl, A, rfl, g3, g4⟩
              show Hb_lineUp_l109 (nI day) (nI i) (nI (fnt m day i)) z1 z2 = _
              rw [g1, g2]
              unfold Hb_lineUp_l109
              rw [e2, if_pos (Int32.le_refl _), bnd_eq, nI_1]
              rfl) B 0 ((0 : Int32), v) (by omega) ⟨nI_0.symm, v.2 24, (pr_self v 24).symm, fun k hk => by rw [v24, pk_un hk], fun c hc => by
                rw [v24, pk_us, b_0 c hc]
                exact ⟨fun z => absurd z (by decide), fun z => absurd z.1 (by omega)⟩⟩
          simp only [chk_t h40, bnd_eq, nI_clamp (show i < 2 ^ 31 by omega), u16, u15, u17, hfn, L4, chk_t (ib_nI (show n < 12 by omega) (by omega)), nI_clamp (show n < 2 ^ 31 by omega), pa_f, nI_1]
          rw [R1, Option.bind_some, A1]
          refine ⟨(nI (i + 1), w'), (nI (i + 1), pf (pa w 14 n (nI i)) 5 (nI (n + 1))), ?_, ?_, rfl, rfl, n + 1, upN st n i, ?_⟩
          · rfl
          · rfl
          have B1 : FXW x3 (pr v 24 A) := fxw_pr V1 (by omega)
          refine ⟨by rw [A2]; exact B1, fmw_pf (fmw_pa L2 (by omega)) (by omega), by rw [A2]; exact v6, pf_at _ _ _, by omega, ?_, ?_, ?_, ?_, ?_, ?_⟩
          · rw [A2, hv]; exact L6
          · rw [A2, hv]; exact L7
          · rw [A2, hv]; exact L8
          · rw [A2, hv]; exact L9
          · intro k hkn
            rw [A2, hv]
            show upN st n i k < i + 1 ∧ (day : Int) < (m.2 13 (upN st n i k)).toInt ∧ upd (u.2 18) n (nI i) k = nI (upN st n i k) ∧ upd (w.2 14) n (nI i) k = nI (upN st n i k) ∧ upd (u.2 20) n (m.2 11 i) k = m.2 11 (upN st n i k) ∧ upd (u.2 21) n (m.2 12 i) k = m.2 12 (upN st n i k) ∧ upd (u.2 22) n (m.2 13 i) k = m.2 13 (upN st n i k) ∧ (∀ b, b < 32 → (bt (A k) b = true ↔ b < B ∧ AL m bo E day (upN st n i k) b)) ∧ (∀ j, j < 32 → (bt (R k) j = true ↔ j < k ∧ SHr m (upN st n i j) (upN st n i k)))
            by_cases e : k = n
            · rw [e, upN_s, pk_us, pk_us, pk_us, pk_us, pk_us]
              refine ⟨by omega, c1', rfl, rfl, rfl, rfl, rfl, A4, fun j hj => ?_⟩
              rw [R3 j hj]
              constructor
              · rintro ⟨z1, z2, z3⟩
                obtain ⟨-, -, -, -, -, q6, q7, -⟩ := L10 j z1
                have q6 : u.2 21 j = m.2 12 (st j) := q6
                have q7 : u.2 22 j = m.2 13 (st j) := q7
                rw [q6] at z2
                rw [q7] at z3
                rw [upN_n (by omega)]
                exact ⟨z1, z2, z3⟩
              · rintro ⟨z1, z2⟩
                obtain ⟨-, -, -, -, -, q6, q7, -⟩ := L10 j z1
                have q6 : u.2 21 j = m.2 12 (st j) := q6
                have q7 : u.2 22 j = m.2 13 (st j) := q7
                rw [upN_n (by omega)] at z2
                rw [q6, q7]
                exact ⟨z1, z2.1, z2.2⟩
            · obtain ⟨k1, k2, k3, k4, k5, k6, k7, k8, k9⟩ := L10 k (by omega)
              rw [upN_n e, pk_un e, pk_un e, pk_un e, pk_un e, pk_un e, A3 k e, R2 k e]
              refine ⟨by omega, k2, k3, k4, k5, k6, k7, k8, fun j hj => (k9 j hj).trans ⟨fun z => ?_, fun z => ?_⟩⟩
              · rw [upN_n (by omega)]; exact z
              · rw [upN_n (by omega)] at z; exact z
          · intro j k hjk hkn
            by_cases e : k = n
            · rw [e, upN_s, upN_n (by omega)]
              exact (L10 j (by omega)).1
            · rw [upN_n e, upN_n (by omega)]
              exact L11 j k hjk (by omega)
      · rw [if_neg c1, if_neg c1]
        exact Or.inl ⟨_, _, rfl, rfl, rfl, rfl, n, st, L1, L2, L3, L4, L5, L6, L7, L8, L9, fun k hk => ⟨by have := (L10 k hk).1; omega, (L10 k hk).2⟩, L11⟩)
  rcases main N 0 ((0 : Int32), y) ((0 : Int32), pf m 5 0) (by omega) ⟨nI_0.symm, nI_0.symm, 0, fun _ => 0, r2, fmw_pf (fmw_refl m) (by omega), r3.trans nI_0.symm, (pf_at _ _ _).trans nI_0.symm, by omega, r4, r5, r6, r7, fun k hk => absurd hk (by omega), fun j k _ hk => absurd hk (by omega)⟩ with ⟨r, q, k1, k2, k3, k4, k5, k6⟩ | ⟨X, Y, ⟨k1, k2, n, st, k3⟩, k4, k5⟩
  · exact Or.inl ⟨r.2, q.2, by rw [k1, ← k3], by rw [k2, ← k4], k5, k6⟩
  · refine Or.inr ⟨n, st, X.2, Y.2, ?_, ?_, k3⟩
    · rw [k4]
      refine loop_inr ?_
      show Hb_lineUp_l16 (nI day) X.1 X.2 = _
      have u5 : X.2.1 5 = nI N := (k3.1.1 5 (by omega)).trans y5
      unfold Hb_lineUp_l16
      rw [u5, k1, if_pos (Int32.le_refl _)]
      rfl
    · rw [k5, htn, ← k2]
