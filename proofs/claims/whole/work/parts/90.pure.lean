-- ===== a rule is read =====
theorem read_eq {x m : MS} {N p : Nat} (hT : TP x m N) (hp : p ≤ 420) (h25 : m.1 25 = nI p) :
    ∃ (x' m' : MS), ((∃ f, 1 ≤ f ∧ f ≤ 3 ∧ f_Reader_readTape x = some (0, x') ∧ f_Md_read m = some (nI f, m') ∧ x'.1 20 = nI f ∧ m'.1 21 = x'.1 21) ∨ (∃ n, n ≤ 60 ∧ f_Reader_readTape x = some (1, x') ∧ f_Md_read m = some (nI 0, m') ∧ x'.1 20 = 0 ∧ x'.1 21 = -1 ∧ x'.1 19 = nI n ∧ m'.1 25 = nI (p + n) ∧ CE x' m' p n ∧ cd_ok (m'.2 32) (m'.2 33) p n)) ∧ FRx x x' ∧ FRm m p m' := by
  obtain ⟨x6, hx6⟩ : ∃ x6, x6 = pf (pf (pf (pf (pf (pf x 19 0) 20 0) 21 (-1)) 23 0) 26 0) 27 0 := ⟨_, rfl⟩
  obtain ⟨m5, hm5⟩ : ∃ m5, m5 = pf (pf (pf (pf (pf m 20 0) 28 0) 29 0) 30 0) 31 1 := ⟨_, rfl⟩
  have hT6 : TP x6 m5 N := by rw [hx6, hm5]; exact hT
  have f23 : x6.1 23 = nI 0 := by rw [hx6, nI_0]; rfl
  have g20 : m5.1 20 = nI 0 := by rw [hm5, nI_0]; rfl
  obtain ⟨x7, m6, k, t1, t2, t3, t4, t5⟩ := tok hT6 (a := 0) (Nat.zero_le N) f23 g20
  have FX7 : FRx x x7 := by
    refine ⟨fun j hj => (t3.1 j (by omega)).trans ?_, fun j hj => by rw [t3.2, hx6]; rfl⟩
    rw [hx6, pf_ne _ _ (by omega), pf_ne _ _ (by omega), pf_ne _ _ (by omega), pf_ne _ _ (by omega), pf_ne _ _ (by omega), pf_ne _ _ (by omega)]
  have FM6 : FRm m p m6 := by
    refine ⟨fun j hj => (t4.1 j (by omega)).trans ?_, fun j hj => by rw [t4.2, hm5]; rfl, fun i hi => by rw [t4.2, hm5]; exact ⟨rfl, rfl⟩⟩
    rw [hm5, pf_ne _ _ (by omega), pf_ne _ _ (by omega), pf_ne _ _ (by omega), pf_ne _ _ (by omega), pf_ne _ _ (by omega)]
  have hT7 : TP x7 m6 N := by
    obtain ⟨y1, y2, y3, y4, y5⟩ := hT6
    exact ⟨(t3.1 18 (by omega)).trans y1, (t4.1 19 (by omega)).trans y2, y3, by rw [t3.2, t4.2]; exact y4, by rw [t4.2]; exact y5⟩
  have hW : Wt N p x m [] x7 m6 0 0 k := by
    refine ⟨⟨FX7, FM6, hT7, ?_, ?_, t5, ?_, ?_, by omega⟩, ?_, ?_, ?_, fun i hi => absurd hi (by omega), ?_, ?_, ?_, trivial, Nat.le_refl 0, by omega, hp, fun i hi => absurd hi (by omega), rfl, by show 0 ≤ 10; omega, fun a ha => absurd ha (List.not_mem_nil)⟩
    · rw [t3.1 20 (by omega), hx6]; rfl
    · rw [t3.1 21 (by omega), hx6]; rfl
    · rw [t3.1 26 (by omega), hx6, nI_0]; rfl
    · rw [t4.1 30 (by omega), hm5, nI_0]; rfl
    · rw [t4.1 31 (by omega), hm5]; rfl
    · rw [t3.1 27 (by omega), hx6]; exact nI_0.symm
    · rw [t3.1 19 (by omega), hx6]; exact nI_0.symm
    · rw [t4.1 25 (by omega), hm5]; exact h25
    · rw [t4.1 28 (by omega), hm5]; exact nI_0.symm
    · rw [t4.1 29 (by omega), hm5]; exact nI_0.symm
  obtain ⟨x8, b1, b2⟩ := (sp_all (N := N) (p := p) (x0 := x) (m0 := m) 80).2.2.2.2 [] x7 m6 0 0 k hW (show rk 0 = 0 by decide) (show 0 ≠ 18 by decide) (by show 5 * (10 - 0) + 6 ≤ 80; omega)
  have hread : f_Md_read m = RL m6 := by
    unfold f_Md_read
    rw [bnd_eq, bnd_eq, bnd_eq, bnd_eq, bnd_eq, ← hm5, t2]
    rfl
  have htape : f_Reader_readTape x = if x8.1 20 = 0 then (if x8.1 24 = 0 then (if x8.1 20 = 0 then (some ((1 : Int32), x8)) else (some ((0 : Int32), x8))) else ((f_Reader_refuse (1 : Int32) x8).bind fun s9 => if s9.1 20 = 0 then (some ((1 : Int32), s9)) else (some ((0 : Int32), s9)))) else (if x8.1 20 = 0 then (some ((1 : Int32), x8)) else (some ((0 : Int32), x8))) := by
    unfold f_Reader_readTape f_Reader_readE
    rw [bnd_eq, bnd_eq, bnd_eq, bnd_eq, bnd_eq, bnd_eq, ← hx6, t1, Option.bind_some, b1, Option.bind_some]
  rw [htape, hread]
  rcases b2 with b2 | ⟨m2, P, e, T, q, b3, b4, b5, b6⟩
  · have dn := dead_ne b2
    obtain ⟨d1, -, f, m', f1, f2, f3, f4, f5, f6⟩ := b2
    rw [if_neg dn, if_neg dn]
    exact ⟨x8, m', Or.inl ⟨f, f1, f2, rfl, f4, f3, f5⟩, d1, f6⟩
  · obtain ⟨hc, h31, h27, hb⟩ := id b4
    obtain ⟨c1, c2, c3, c4, c5, c6, c7, c8, c9⟩ := id hc
    have hk := c6.2.2.1
    have h24 := c6.2.2.2.2.1
    have h22 : m2.1 22 = nI q := c6.2.2.2.1
    by_cases q0 : q = 0
    · subst q0
      obtain ⟨m3, t1', t2', t3'⟩ := through_eq (σ := []) (show rk 0 = 0 by decide) (show 0 ≠ 7 by decide) P.length P m2 e (Nat.le_refl _) hb
      have t1' : f_Md_through m2 = some (nI 0, m3) := t1'
      obtain ⟨z1, z2, z3, z4, z5⟩ := t3'
      have z5 : RI m3 p (e + P.length) T [] 1 := z5
      obtain ⟨r1, r2, r3, r4, r5, r6, r7, r8, r9, r10, r11⟩ := z5
      have hRL : RL m2 = some (nI 0, m3) := by
        rw [RL_eq]
        unfold Md_read_l29
        rw [h22, if_pos nI_0, h31, if00, t1', bd2_some, if_pos nI_0]
        show some ((0 : Int32), m3) = _
        rw [nI_0]
      rw [if_pos c4, if_pos (show x8.1 24 = 0 from h24), if_pos c4]
      have r5 : e + P.length + 0 ≤ T := r5
      exact ⟨x8, m3, Or.inr ⟨e + P.length, by omega, rfl, b3.trans hRL, c4, c5, z1, r1, z2, r8, r9⟩, c1, frm_of c2 t2'⟩
    · obtain ⟨m', g1, g2⟩ := close_bad b4 b5 (show rk 0 = 0 by decide) (show 0 ≠ 7 by decide) (fun _ => show 0 ≠ 8 by decide) (fun _ => show 0 ≠ 5 by decide) (fun _ => show 0 ≠ 6 by decide) (fun z => absurd z q0)
      obtain ⟨x', d1, d2⟩ := refuse_bad b4 g1 g2
      have dn := dead_ne d2
      obtain ⟨w1, -, f, m'', f1, f2, f3, f4, f5, f6⟩ := d2
      rw [if_pos c4, if_neg (by rw [h24]; exact fun z => q0 ((kc_is hk (by omega) (b := 0) rfl).mp z) : ¬ x8.1 24 = 0), d1, Option.bind_some, if_neg dn]
      exact ⟨x', m'', Or.inl ⟨f, f1, f2, rfl, b3.trans f4, f3, f5⟩, w1, f6⟩
-- ===== rule =====
def FXR (x y : MS) : Prop := (∀ j, ¬ (18 ≤ j ∧ j ≤ 28) → y.1 j = x.1 j) ∧ ∀ j, ¬ (38 ≤ j ∧ j ≤ 41) → y.2 j = x.2 j
def FMR (m y : MS) : Prop := (∀ j, ¬ (19 ≤ j ∧ j ≤ 31) → y.1 j = m.1 j) ∧ ∀ j, ¬ (30 ≤ j ∧ j ≤ 34) → y.2 j = m.2 j
def rX (x : MS) (a : Nat → Int32) (c : Nat → Nat → Int32) : MS := (fun j => if 18 ≤ j ∧ j ≤ 28 then a j else x.1 j, fun j => if 38 ≤ j ∧ j ≤ 41 then c j else x.2 j)
def rM (m : MS) (a : Nat → Int32) (c : Nat → Nat → Int32) : MS := (fun j => if 19 ≤ j ∧ j ≤ 31 then a j else m.1 j, fun j => if 30 ≤ j ∧ j ≤ 34 then c j else m.2 j)
theorem fxr_eq {x y : MS} (h : FXR x y) : ∃ a c, y = rX x a c := by
  refine ⟨y.1, y.2, Prod.ext (funext fun j => ?_) (funext fun j => ?_)⟩
  · show y.1 j = if 18 ≤ j ∧ j ≤ 28 then y.1 j else x.1 j
    by_cases e : 18 ≤ j ∧ j ≤ 28
    · rw [if_pos e]
    · rw [if_neg e]; exact h.1 j e
  · show y.2 j = if 38 ≤ j ∧ j ≤ 41 then y.2 j else x.2 j
    by_cases e : 38 ≤ j ∧ j ≤ 41
    · rw [if_pos e]
    · rw [if_neg e]; exact h.2 j e
theorem fmr_eq {x y : MS} (h : FMR x y) : ∃ a c, y = rM x a c := by
  refine ⟨y.1, y.2, Prod.ext (funext fun j => ?_) (funext fun j => ?_)⟩
  · show y.1 j = if 19 ≤ j ∧ j ≤ 31 then y.1 j else x.1 j
    by_cases e : 19 ≤ j ∧ j ≤ 31
    · rw [if_pos e]
    · rw [if_neg e]; exact h.1 j e
  · show y.2 j = if 30 ≤ j ∧ j ≤ 34 then y.2 j else x.2 j
    by_cases e : 30 ≤ j ∧ j ≤ 34
    · rw [if_pos e]
    · rw [if_neg e]; exact h.2 j e
theorem inv_r {x m y z : MS} (h : Inv x m) (hx : FXR x y) (hm : FMR m z) (hP' : JP y z) (hR' : JR y z) (hU' : JU y z) : Inv y z := by
  obtain ⟨hL, hB, hO, hH, hS, hT, hK, hC, hW, hP, hR, hU⟩ := h
  obtain ⟨a, c, rfl⟩ := fxr_eq hx
  obtain ⟨b, d, rfl⟩ := fmr_eq hm
  exact ⟨hL, hB, hO, hH, hS, hT, hK, hC, hW, hP', hR', hU'⟩
/-- where the next rule's signs begin; those of the rules before it end there or earlier -/
theorem ju_from {x m : MS} (hU : JU x m) : ∀ r : Nat, (r : Int) ≤ (m.1 24).toInt → ∃ p, m.2 31 r = nI p ∧ p ≤ 60 * r ∧ ∀ r' : Nat, r' < r → ∃ p' n : Nat, m.2 31 r' = nI p' ∧ m.2 31 (r' + 1) = nI (p' + n) ∧ p' ≤ 60 * r' ∧ 1 ≤ n ∧ n ≤ 60 ∧ x.2 40 r' = nI n ∧ cd_ok (m.2 32) (m.2 33) p' n ∧ (∀ i, i < n → x.2 41 (60 * r' + i) = tr (m.2 32 (p' + i)) (m.2 33 (p' + i))) ∧ p' + n ≤ p := by
  obtain ⟨u1, u2, u3, u4, u5⟩ := hU
  have u32 := u3.2
  intro r
  induction r with
  | zero => exact fun _ => ⟨0, u4.trans nI_0.symm, by omega, fun r' h => absurd h (by omega)⟩
  | succ r ih =>
    intro hr
    obtain ⟨p, q1, q2, q3⟩ := ih (by omega)
    obtain ⟨p', n, v1, v2, v3, v4, v5, v6, v7, v8⟩ := u5 r (by omega)
    have hpp : p' = p := (nI_eq (by omega) (by omega)).mp (v1.symm.trans q1)
    subst hpp
    refine ⟨p' + n, v2, by omega, fun r' hr' => ?_⟩
    by_cases e : r' = r
    · subst e
      exact ⟨p', n, v1, v2, v3, v4, v5, v6, v7, v8, Nat.le_refl _⟩
    · obtain ⟨p2, n2, w1, w2, w3, w4, w5, w6, w7, w8, w9⟩ := q3 r' (by omega)
      exact ⟨p2, n2, w1, w2, w3, w4, w5, w6, w7, w8, by omega⟩
theorem cd_cong {sg vl sg' vl' : Nat → Int32} {p n : Nat} (h : ∀ i, i < n → sg' (p + i) = sg (p + i) ∧ vl' (p + i) = vl (p + i)) (hc : cd_ok sg vl p n) : cd_ok sg' vl' p n := by
  obtain ⟨c1, c2⟩ := hc
  have hs : ∀ i, i ≤ n → si (fun j => gr (sg' (p + j))) i = si (fun j => gr (sg (p + j))) i := fun i hi => si_cong (fun j hj => by
    show gr (sg' (p + j)) = gr (sg (p + j))
    rw [(h j (by omega)).1])
  refine ⟨fun i hi => ?_, by rw [hs n (Nat.le_refl n)]; exact c2⟩
  rw [(h i hi).1, (h i hi).2, hs i (by omega)]
  exact c1 i hi
theorem st_rule : St_rule Inv := by
  intro a1 sx sm h
  obtain ⟨hL, hB, hO, hH, hS, hT, hK, hC, hW, hP, hR, hU⟩ := id h
  obtain ⟨u1, u2, u3, u4, u5⟩ := id hU
  obtain ⟨p1, p2, p3, p4⟩ := id hP
  have u32 := u3.2
  unfold f_Hb_rule f_Md_rule
  by_cases c1 : 0 ≤ a1.toInt ∧ a1.toInt ≤ 399
  · rw [day_t c1, in_t (lo := 0) (hi := 399) c1, Option.bind_some, Option.bind_some, if10, if10]
    by_cases c2 : sm.1 24 = (8 : Int32)
    · rw [if_pos c2, if_neg (by rw [u1, c2]; decide : ¬ sx.1 28 < (8 : Int32))]
      exact ⟨-1, _, _, rfl, rfl, h⟩
    · have hlt : (sm.1 24).toInt < 8 := by
        rw [fa_eq] at c2
        have c2 : ¬ (sm.1 24).toInt = 8 := c2
        omega
      rw [if_neg c2, if_pos (by rw [u1, fa_lt]; exact hlt : sx.1 28 < (8 : Int32))]
      have hcr := cl_ti u3.1
      have hnr := cnt_nI u3.1
      obtain ⟨r, hr⟩ : ∃ r, r = (sm.1 24).toNatClampNeg := ⟨_, rfl⟩
      rw [← hr] at hcr hnr
      obtain ⟨p, q1, q2, q3⟩ := ju_from hU r (by omega)
      have hcN := cl_ti p3.1
      have hnN := cnt_nI p3.1
      have p32 := p3.2
      obtain ⟨N, hN⟩ : ∃ N, N = (sm.1 19).toNatClampNeg := ⟨_, rfl⟩
      rw [← hN] at hcN hnN
      have hTP : TP sx (pf sm 25 (nI p)) N := ⟨p1.trans hnN, hnN, by omega, p2, fun k => ⟨(sm.2 29 k).toNatClampNeg, by
        have := cl_ti (p4 k).1
        have := (p4 k).2
        omega, cnt_nI (p4 k).1⟩⟩
      obtain ⟨x', m', hcase, FX, FM⟩ := read_eq (p := p) hTP (by omega) (pf_at _ _ _)
      have FM2 : FMR sm m' := ⟨fun j hj => (FM.1 j (by omega)).trans (pf_ne _ _ (by omega)), fun j hj => FM.2.1 j (by omega)⟩
      have r31 : m'.2 31 = sm.2 31 := FM.2.1 31 (by omega)
      have r30 : m'.2 30 = sm.2 30 := FM.2.1 30 (by omega)
      have r29 : m'.2 29 = sm.2 29 := FM.2.1 29 (by omega)
      have r24 : m'.1 24 = nI r := (FM.1 24 (by omega)).trans hnr
      have x28 : x'.1 28 = nI r := ((FX.1 28 (by omega)).trans u1).trans hnr
      have x37 : x'.2 37 = sx.2 37 := FX.2 37 (by omega)
      have x39 : x'.2 39 = sx.2 39 := FX.2 39 (by omega)
      have x40 : x'.2 40 = sx.2 40 := FX.2 40 (by omega)
      have x41 : x'.2 41 = sx.2 41 := FX.2 41 (by omega)
      -- the rules before it
      have old : ∀ r' : Nat, r' < r → ∃ p' n : Nat, sm.2 31 r' = nI p' ∧ sm.2 31 (r' + 1) = nI (p' + n) ∧ p' ≤ 60 * r' ∧ 1 ≤ n ∧ n ≤ 60 ∧ sx.2 40 r' = nI n ∧ cd_ok (m'.2 32) (m'.2 33) p' n ∧ ∀ i, i < n → sx.2 41 (60 * r' + i) = tr (m'.2 32 (p' + i)) (m'.2 33 (p' + i)) := fun r' hr' => by
        obtain ⟨p', n, w1, w2, w3, w4, w5, w6, w7, w8, w9⟩ := q3 r' hr'
        have hrow : ∀ i, i < n → m'.2 32 (p' + i) = sm.2 32 (p' + i) ∧ m'.2 33 (p' + i) = sm.2 33 (p' + i) := fun i hi => FM.2.2 (p' + i) (by omega)
        refine ⟨p', n, w1, w2, w3, w4, w5, w6, cd_cong hrow w7, fun i hi => ?_⟩
        rw [(hrow i hi).1, (hrow i hi).2]
        exact w8 i hi
      have h9 : inb (nI r) 9 = true := ib_nI (by omega) (by omega)
      have h8 : inb (nI r) 8 = true := ib_nI (by omega) (by omega)
      rw [hnr, chk_t h9, bnd_eq, nI_clamp (n := r) (by omega), q1, bnd_eq]
      rcases hcase with ⟨f, f1, f2, e1, e2, e3, e4⟩ | ⟨n, n60, e1, e2, e3, e4, e5, e6, e7, e8⟩
      · -- refused
        rw [e1, e2, bd2_some, bd2_some, bnd_eq, bnd_eq, if00, show (pf m' 26 (nI f)).1 26 = nI f from pf_at _ _ _, if_neg (nI_ne0 (by omega) (by omega))]
        unfold Md_rule_j59
        have e26 : (pf (pf (pf m' 26 (nI f)) 27 ((pf m' 26 (nI f)).1 21)) 19 0).1 26 = nI f := rfl
        rw [bnd_eq, bnd_eq, e26, if_neg (nI_ne0 (by omega) (by omega))]
        refine ⟨-1, _, _, rfl, rfl, inv_r h ⟨fun j hj => (pf_ne _ _ (by omega)).trans (FX.1 j (by omega)), fun j hj => FX.2 j (by omega)⟩ ⟨fun j hj => (pf_ne _ _ (by omega)).trans ((pf_ne _ _ (by omega)).trans ((pf_ne _ _ (by omega)).trans (FM2.1 j hj))), FM2.2⟩ ?_ ?_ ?_⟩
        · refine ⟨rfl, ?_, ⟨(by decide : (0 : Int) ≤ (0 : Int32).toInt), (by decide : (0 : Int32).toInt ≤ ((200 : Nat) : Int))⟩, fun k => ?_⟩
          · show x'.2 37 = m'.2 29
            rw [x37, r29]; exact p2
          · show 0 ≤ (m'.2 29 k).toInt ∧ (m'.2 29 k).toInt ≤ 255
            rw [r29]; exact p4 k
        · refine ⟨e3, ?_⟩
          show x'.1 21 = m'.1 21
          exact e4.symm
        · refine ⟨?_, ?_, ?_, ?_, fun r' hr' => ?_⟩
          · show x'.1 28 = m'.1 24
            rw [x28, r24]
          · show x'.2 39 = m'.2 30
            rw [x39, r30]; exact u2
          · show cnt (m'.1 24) 8
            rw [r24, ← hnr]; exact u3
          · show m'.2 31 0 = 0
            rw [r31]; exact u4
          · have hr' : (r' : Int) < (m'.1 24).toInt := hr'
            rw [r24, nI_toInt (by omega)] at hr'
            show ∃ p n : Nat, m'.2 31 r' = nI p ∧ m'.2 31 (r' + 1) = nI (p + n) ∧ p ≤ 60 * r' ∧ 1 ≤ n ∧ n ≤ 60 ∧ x'.2 40 r' = nI n ∧ cd_ok (m'.2 32) (m'.2 33) p n ∧ ∀ i, i < n → x'.2 41 (60 * r' + i) = tr (m'.2 32 (p + i)) (m'.2 33 (p + i))
            rw [r31, x40, x41]
            exact old r' (by omega)
      · -- taken
        have hn1 : 1 ≤ n := by
          by_cases n0 : n = 0
          · subst n0
            have := e8.2
            have this : (0 : Int) = 1 := this
            omega
          · omega
        rw [e1, e2, bd2_some, bd2_some, bnd_eq, bnd_eq, if10, show (pf m' 26 (nI 0)).1 26 = nI 0 from pf_at _ _ _, if_pos nI_0]
        unfold f_Rules_add Md_rule_j59
        have s28 : (pf x' 18 0).1 28 = nI r := x28
        have s19 : (pf x' 18 0).1 19 = nI n := e5
        have hck : decide (0 ≤ (0 : Int32).toInt ∧ 0 ≤ (nI (60 * r)).toInt ∧ 0 ≤ (nI n).toInt ∧ (0 : Int32).toInt + (nI n).toInt ≤ (60 : Int) ∧ (nI (60 * r)).toInt + (nI n).toInt ≤ (480 : Int)) = true := by
          refine decide_eq_true ?_
          rw [nI_toInt (by omega), nI_toInt (by omega)]
          show (0 : Int) ≤ 0 ∧ 0 ≤ ((60 * r : Nat) : Int) ∧ 0 ≤ (n : Int) ∧ 0 + (n : Int) ≤ 60 ∧ ((60 * r : Nat) : Int) + (n : Int) ≤ 480
          omega
        have e26 : (pf (pf (pf m' 26 (nI 0)) 27 (-1)) 19 0).1 26 = 0 := nI_0
        have e24 : (pf (pf (pf m' 26 (nI 0)) 27 (-1)) 19 0).1 24 = nI r := r24
        rw [s28, s19, if_neg (by rw [fa_le, nI_toInt (by omega)]; show ¬ (8 : Int) ≤ (r : Int); omega : ¬ (8 : Int32) ≤ nI r), if_pos (by rw [fa_le, nI_toInt (by omega)]; show (n : Int) ≤ 60; omega : nI n ≤ (60 : Int32))]
        rw [bnd_eq (pf (pf m' 26 (nI 0)) 27 (-1)), bnd_eq (pf (pf (pf m' 26 (nI 0)) 27 (-1)) 19 0), e26, if_pos rfl]
        obtain ⟨y, hy⟩ : ∃ y, y = pf (pr (pa (pa (pf x' 18 0) 39 r a1) 40 r (nI n)) 41 (va_cpy (x'.2 38) (x'.2 41) 0 (60 * r) n)) 28 (nI (r + 1)) := ⟨_, rfl⟩
        obtain ⟨w, hw⟩ : ∃ w, w = pa (pf (pa (pf (pf (pf m' 26 (nI 0)) 27 (-1)) 19 0) 30 r a1) 24 (nI (r + 1))) 31 (r + 1) (m'.1 25) := ⟨_, rfl⟩
        have hcl : bd2 (chk (inb (nI r) 8) (bnd (pa (pf x' 18 0) 39 (nI r).toNatClampNeg a1) fun s1 => chk (inb (s1.1 28) 8) (bnd (pa s1 40 (s1.1 28).toNatClampNeg (nI n)) fun s2 => chk (decide (0 ≤ (0 : Int32).toInt ∧ 0 ≤ ((s2.1 28) * (60 : Int32)).toInt ∧ 0 ≤ (nI n).toInt ∧ (0 : Int32).toInt + (nI n).toInt ≤ (60 : Int) ∧ ((s2.1 28) * (60 : Int32)).toInt + (nI n).toInt ≤ (480 : Int))) (bnd (pr s2 41 (va_cpy (s2.2 38) (s2.2 41) (0 : Int32).toNatClampNeg ((s2.1 28) * (60 : Int32)).toNatClampNeg (nI n).toNatClampNeg)) fun s3 => bnd (pf s3 28 ((s3.1 28) + (1 : Int32))) fun s4 => some ((s3.1 28), s4))))) (fun v5 s6 => some (v5, s6)) = some (nI r, y) := by
          simp only [pa_f, pr_f, s28, chk_t h8, bnd_eq, nI_clamp (show r < 2 ^ 31 by omega), nI_clamp (show n < 2 ^ 31 by omega), nI_clamp (show 60 * r < 2 ^ 31 by omega), mul60 r (by omega), chk_t hck, nI_1]
          rw [hy]
          rfl
        have hrf : chk (inb ((pf (pf (pf m' 26 (nI 0)) 27 (-1)) 19 0).1 24) 8) (bnd (pa (pf (pf (pf m' 26 (nI 0)) 27 (-1)) 19 0) 30 ((pf (pf (pf m' 26 (nI 0)) 27 (-1)) 19 0).1 24).toNatClampNeg a1) fun s3 => bnd (pf s3 24 ((s3.1 24) + (1 : Int32))) fun s4 => chk (inb (s4.1 24) 9) (bnd (pa s4 31 (s4.1 24).toNatClampNeg (s4.1 25)) fun s5 => some (((s5.1 24) - (1 : Int32)), s5))) = some (nI r, w) := by
          have e24b : ∀ s v, (pf s 24 v).1 24 = v := fun s v => pf_at _ _ _
          have e25b : (pf (pa (pf (pf (pf m' 26 (nI 0)) 27 (-1)) 19 0) 30 r a1) 24 (nI (r + 1))).1 25 = m'.1 25 := rfl
          simp only [pa_f, e24, chk_t h8, bnd_eq, nI_clamp (show r < 2 ^ 31 by omega), nI_1, e24b, chk_t (ib_nI (show r + 1 < 9 by omega) (by omega)), nI_clamp (show r + 1 < 2 ^ 31 by omega), nI_pred]
          rw [e25b, hw]
        refine ⟨nI r, y, w, hcl, hrf, ?_⟩
        refine inv_r h ?_ ?_ ?_ ?_ ?_
        · rw [hy]
          refine ⟨fun j hj => (pf_ne _ _ (by omega)).trans ((pf_ne _ _ (by omega)).trans (FX.1 j (by omega))), fun j hj => ?_⟩
          show (if j = 41 then _ else if j = 40 then _ else if j = 39 then _ else x'.2 j) = sx.2 j
          rw [if_neg (by omega), if_neg (by omega), if_neg (by omega)]
          exact FX.2 j (by omega)
        · rw [hw]
          refine ⟨fun j hj => (pf_ne _ _ (by omega)).trans ((pf_ne _ _ (by omega)).trans ((pf_ne _ _ (by omega)).trans ((pf_ne _ _ (by omega)).trans (FM2.1 j hj)))), fun j hj => ?_⟩
          show (if j = 31 then _ else if j = 30 then _ else m'.2 j) = sm.2 j
          rw [if_neg (by omega), if_neg (by omega)]
          exact FM2.2 j hj
        · rw [hy, hw]
          refine ⟨rfl, ?_, ⟨(by decide : (0 : Int) ≤ (0 : Int32).toInt), (by decide : (0 : Int32).toInt ≤ ((200 : Nat) : Int))⟩, fun k => ?_⟩
          · show x'.2 37 = m'.2 29
            rw [x37, r29]; exact p2
          · show 0 ≤ (m'.2 29 k).toInt ∧ (m'.2 29 k).toInt ≤ 255
            rw [r29]; exact p4 k
        · rw [hy, hw]
          refine ⟨?_, ?_⟩
          · show x'.1 20 = nI 0
            rw [e3, nI_0]
          · show x'.1 21 = -1
            exact e4
        · have y40 : y.2 40 = upd (sx.2 40) r (nI n) := by
            rw [hy]
            show upd (x'.2 40) r (nI n) = _
            rw [x40]
          have y41 : y.2 41 = va_cpy (x'.2 38) (sx.2 41) 0 (60 * r) n := by
            rw [hy]
            show va_cpy (x'.2 38) (x'.2 41) 0 (60 * r) n = _
            rw [x41]
          have w31 : w.2 31 = upd (sm.2 31) (r + 1) (nI (p + n)) := by
            rw [hw]
            show upd (m'.2 31) (r + 1) (m'.1 25) = _
            rw [r31, e6]
          have w32 : w.2 32 = m'.2 32 := by rw [hw]; rfl
          have w33 : w.2 33 = m'.2 33 := by rw [hw]; rfl
          have w24 : w.1 24 = nI (r + 1) := by rw [hw]; rfl
          refine ⟨?_, ?_, ?_, ?_, fun r' hr' => ?_⟩
          · rw [w24, hy]; rfl
          · rw [hy, hw]
            show upd (x'.2 39) r a1 = upd (m'.2 30) r a1
            rw [x39, r30, u2]
          · rw [w24]
            unfold cnt
            rw [nI_toInt (by omega)]
            omega
          · rw [w31, pk_un (by omega)]; exact u4
          · rw [w24, nI_toInt (by omega)] at hr'
            rw [y40, y41, w31, w32, w33]
            by_cases e : r' = r
            · subst e
              refine ⟨p, n, by rw [pk_un (by omega)]; exact q1, pk_us, q2, hn1, n60, pk_us, e8, fun i hi => ?_⟩
              unfold va_cpy
              rw [if_pos (by omega), show 0 + (60 * r' + i - 60 * r') = i by omega]
              exact e7 i hi
            · obtain ⟨p', n', v1, v2, v3, v4, v5, v6, v7, v8⟩ := old r' (by omega)
              refine ⟨p', n', by rw [pk_un (by omega)]; exact v1, by rw [pk_un (by omega)]; exact v2, v3, v4, v5, by rw [pk_un e]; exact v6, v7, fun i hi => ?_⟩
              unfold va_cpy
              rw [if_neg (by omega)]
              exact v8 i hi
  · rw [day_f c1, in_f (lo := 0) (hi := 399) c1]
    exact ⟨-1, _, _, rfl, rfl, h⟩
