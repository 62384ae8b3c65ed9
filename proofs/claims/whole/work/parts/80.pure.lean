-- ===== home =====
theorem home_eq {sx sm : MS} (h : Inv sx sm) {bo d kx jr E : Nat} (hd : d < 400) (hbo : (bo : Int) < (sm.1 2).toInt) (hkx : (kx : Int) < (sm.1 3).toInt) (hjr : (jr : Int) < (sm.1 3).toInt) (hxb : sx.2 11 kx = nI bo) (hx1 : (sx.2 12 kx).toInt ≤ (d : Int)) (hx2 : (d : Int) < (sx.2 13 kx).toInt) (hmb : sm.2 7 jr = nI bo) (hm1 : (sm.2 8 jr).toInt ≤ (d : Int)) (hm2 : (d : Int) < (sm.2 9 jr).toInt) (hE : sm.2 9 jr = nI E) (hxE : sx.2 13 kx = nI E) (hE4 : E ≤ 400) :
    ∃ (r : Int32) (sx2 sm2 : MS), bd2 (f_Hb_findRoom (nI d) (cut sx kx d)) (fun v4 s5 => if 0 ≤ v4 then (chk (inb (nI kx) 60) (bnd (s5.2 12 (nI kx).toNatClampNeg) fun v6 => if v6 = nI d then ((f_Spans_remove (nI kx) s5).bind fun s7 => some (v4, s7)) else (some (v4, s5)))) else (chk (inb (nI kx) 60) (bnd (pa s5 13 (nI kx).toNatClampNeg (nI E)) fun s8 => some (v4, s8)))) = some (r, sx2) ∧ loop (fun z => Md_home_l85 (nI bo) (nI d) (nI jr) z.1 z.2) ((0 : Int32), pf sm 5 0) = some (r, sm2) ∧ Inv sx2 sm2 := by
  obtain ⟨hL, hB, hO, hH, hS, hT, hK, hC, hW, hP, hR, hU⟩ := id h
  obtain ⟨t1, t2, t3, t4, t5, t6, t7⟩ := id hT
  have t62 := t6.2
  have s22 := hS.2.1.2
  have b42 := hB.2.2.2.1.2
  have o62 := hO.2.2.2.2.2.1.2
  have hbc := cl_ti hB.2.2.2.1.1
  have hbn := cnt_nI hB.2.2.2.1.1
  have hdi : (nI d).toInt = (d : Int) := nI_toInt (by omega)
  have h60 : inb (nI kx) 60 = true := ib_nI (by omega) (by omega)
  have hck : (nI kx).toNatClampNeg = kx := nI_clamp (by omega)
  have hxEi : (sx.2 13 kx).toInt = (E : Int) := by rw [hxE, nI_toInt (by omega)]
  -- an answer below 0 leaves all as it was
  have neg : ∀ (v : Int32) (y w : MS), v.toInt < 0 → FXW (cut sx kx d) y → FMW sm w → ∃ (r : Int32) (sx2 sm2 : MS), (if 0 ≤ v then (chk (inb (nI kx) 60) (bnd (y.2 12 (nI kx).toNatClampNeg) fun v6 => if v6 = nI d then ((f_Spans_remove (nI kx) y).bind fun s7 => some (v, s7)) else (some (v, y)))) else (chk (inb (nI kx) 60) (bnd (pa y 13 (nI kx).toNatClampNeg (nI E)) fun s8 => some (v, s8)))) = some (r, sx2) ∧ (some (v, w) : Option (Int32 × MS)) = some (r, sm2) ∧ Inv sx2 sm2 := by
    intro v y w hv hy hw
    rw [if_neg (by rw [fa_le]; show ¬ (0 : Int) ≤ v.toInt; omega : ¬ (0 : Int32) ≤ v), chk_t h60, bnd_eq, hck]
    have hb := back_fxw hy
    rw [hxE] at hb
    exact ⟨v, _, w, rfl, rfl, inv_w h hb hw⟩
  rcases lineup h hkx hxb hbo hx1 hx2 hxEi hd (nI bo) (nI jr) with ⟨x', w, q1, q2, q3, q4⟩ | ⟨n, st, x', w, q1, q2, q3⟩
  · unfold f_Hb_findRoom
    rw [q1, bd2_some, if00, bd2_some, q2]
    exact neg (-2) x' w (by decide) q3 q4
  · obtain ⟨L1, L2, L3, L4, L5, L6, L7, L8, L9, L10, L11⟩ := q3
    have w4 : w.1 4 = sm.1 4 := L2.1 4 (by omega)
    have hBB : (sm.1 1).toNatClampNeg ≤ 10 := by omega
    obtain ⟨B, hBe⟩ : ∃ B, B = (sm.1 1).toNatClampNeg := ⟨_, rfl⟩
    rw [← hBe] at L6 L10 hBB hbc hbn
    have htc := cl_ti t6.1
    -- the reference's state before it walks
    obtain ⟨s4, hs4⟩ : ∃ s4, s4 = pf (pf (pf w 8 (nI d)) 9 (nI bo)) 10 (nI E) := ⟨_, rfl⟩
    have hF4 : FMW sm s4 := by rw [hs4]; exact fmw_pf (fmw_pf (fmw_pf L2 (by omega)) (by omega)) (by omega)
    have hWB : WB sm d bo E n st (pf (pf s4 6 (-1)) 7 0) := by
      refine ⟨fmw_pf (fmw_pf hF4 (by omega)) (by omega), by rw [hs4]; rfl, by rw [hs4]; rfl, by rw [hs4]; rfl, L5, fun k hk => ?_⟩
      obtain ⟨p1, p2, p3, p4, -⟩ := L10 k hk
      refine ⟨by rw [hs4]; exact p4, by omega, p2⟩
    have hWm := wkm_of h hWB hd hbo hE4 (by rw [hs4]; exact L4)
    rw [← hBe] at hWm
    have hWx : WKx x' n B (fun k => (sm.2 11 (st k)).toNatClampNeg) (fun k b => AL sm bo E d (st k) b) (fun j k => SHr sm (st j) (st k)) := by
      refine ⟨L3, L6, fun k hk => ?_, fun k hk b hb => ?_, fun k hk j hj => ?_⟩
      · obtain ⟨p1, p2, p3, p4, p5, -⟩ := L10 k hk
        rw [p5]
        exact cnt_nI (t7 (st k) (by omega)).2.2.2.1
      · obtain ⟨p1, p2, p3, p4, p5, p6, p7, p8, p9⟩ := L10 k hk
        rw [p8 b (by omega)]
        exact ⟨fun z => z.2, fun z => ⟨hb, z⟩⟩
      · obtain ⟨p1, p2, p3, p4, p5, p6, p7, p8, p9⟩ := L10 k hk
        rw [p9 j (by omega)]
        exact ⟨fun z => z.2, fun z => ⟨hj, z⟩⟩
    obtain ⟨y, y1, y2, y3⟩ := walk_eq hWx hWm L5 hBB (fun k hk => by
      obtain ⟨p1, -⟩ := L10 k hk
      obtain ⟨-, -, -, a4, a5, -⟩ := t7 (st k) (by omega)
      have := cl_ti a4
      show (sm.2 11 (st k)).toNatClampNeg < 10
      omega) L7 L8 L9
    have FY : FXW (cut sx kx d) y := ⟨fun j hj => (y2.1 j (by omega) (by omega)).trans (L1.1 j hj), fun j hj => (y2.2 j (by omega) (by omega) (by omega)).trans (L1.2 j hj)⟩
    have FMd2 : ∀ m', FMd (pf (pf s4 6 (-1)) 7 0) m' → FMW sm m' := fun m' hm' => ⟨fun j hj => (hm'.1 j (by omega) (by omega)).trans (hWB.1.1 j hj), fun j hj => (hm'.2 j (by omega) (by omega)).trans (hWB.1.2 j hj)⟩
    have hs9 : (pf (pf w 8 (nI d)) 9 (nI bo)).2 9 jr = nI E := by
      show w.2 9 jr = _
      rw [L2.2 9 (by omega)]
      exact hE
    have href : loop (fun z => Md_home_l85 (nI bo) (nI d) (nI jr) z.1 z.2) ((0 : Int32), pf sm 5 0) = bd2 (f_Md_walk s4) fun v5 s6 => if v5 = 0 then (some ((-2 : Int32), s6)) else (if 0 ≤ (s6.1 6) then (loop (fun z => Md_home_l192 (nI d) (nI jr) s6 z.1 z.2) ((0 : Int32), (0 : Int32))) else (some ((-1 : Int32), s6))) := by
      rw [q2]
      refine loop_xit ?_
      show Md_home_l85 (nI bo) (nI d) (nI jr) (sm.1 4) w = _
      unfold Md_home_l85
      rw [w4, if_pos (Int32.le_refl _), bnd_eq, bnd_eq, chk_t (ib_nI (by omega) (by omega)), bnd_eq, bnd_eq, nI_clamp (n := jr) (by omega), hs9, ← hs4]
    rw [href]
    unfold f_Hb_findRoom
    rw [q1, bd2_some, if10, y1, Option.bind_some]
    rcases y3 with ⟨e9, m', o1, o2⟩ | ⟨t, f, m', o1, o2, o3⟩
    · rw [o1, bd2_some, if00]
      unfold f_Walk_isSpent
      rw [e9, if_neg (by decide : ¬ nI 50001 ≤ (50000 : Int32)), Option.bind_some, if10, bd2_some]
      exact neg (-2) y m' (by decide) FY (FMd2 m' o2)
    · obtain ⟨d1, d2, d3, d4, d5, d6, d7, d8, d9⟩ := o3
      have FM' := FMd2 m' o2
      rw [o1, bd2_some, if10]
      unfold f_Walk_isSpent f_Walk_isFound
      rw [d1, if_pos (nsp d2), Option.bind_some, if00, d4, d6]
      by_cases hf : f = 13
      · rw [if_pos hf, if_pos (by rw [hf]; rfl : nI f = (13 : Int32)), Option.bind_some, if00, bd2_some, if_neg (by decide : ¬ (0 : Int32) ≤ -1)]
        exact neg (-1) y m' (by decide) FY FM'
      · have nf : ¬ nI f = (13 : Int32) := fun q => hf ((nI_eq (a := f) (b := 13) (by omega) (by omega)).mp q)
        rw [if_neg hf, if_neg nf, Option.bind_some, if10, if_pos (nI_pos' (by omega))]
        have y6 : y.1 6 = nI n := (y2.1 6 (by omega) (by omega)).trans L3
        have m5 : m'.1 5 = nI n := by
          rw [o2.1 5 (by omega) (by omega), hs4]
          exact L4
        have y20 : y.2 20 = x'.2 20 := y2.2 20 (by omega) (by omega) (by omega)
        have y21 : y.2 21 = x'.2 21 := y2.2 21 (by omega) (by omega) (by omega)
        have y18 : y.2 18 = x'.2 18 := y2.2 18 (by omega) (by omega) (by omega)
        have m14 : m'.2 14 = w.2 14 := by rw [o2.2 14 (by omega) (by omega), hs4]; rfl
        have m11 : m'.2 11 = sm.2 11 := FM'.2 11 (by omega)
        have m12 : m'.2 12 = sm.2 12 := FM'.2 12 (by omega)
        have m13 : m'.2 13 = sm.2 13 := FM'.2 13 (by omega)
        have m4 : m'.1 4 = sm.1 4 := FM'.1 4 (by omega)
        have hz : ∀ k, k < n → m'.2 14 k = nI (st k) ∧ st k < 40 ∧ y.2 19 k = m'.2 16 k ∧ y.2 20 k = m'.2 11 (st k) ∧ y.2 21 k = m'.2 12 (st k) := fun k hk => by
          obtain ⟨p1, p2, p3, p4, p5, p6, p7, p8, p9⟩ := L10 k hk
          rw [m14, y20, y21, m11, m12]
          exact ⟨p4, by omega, (d7 hf k hk).1, p5, p6⟩
        obtain ⟨c1, c2⟩ := ahead_eq (nI jr) L5 hd y6 m5 hz
        have hmq := mq_le y d n
        have y5 : y.1 5 = sm.1 4 := (FY.1 5 (by omega)).trans t1
        rw [c1, Option.bind_some, c2, y5]
        have hadd : (sm.1 4 + nI (mq y d n)).toInt = (sm.1 4).toInt + (mq y d n : Int) := by
          rw [fb_addI (by rw [nI_toInt (by omega)]; omega) (by rw [nI_toInt (by omega)]; omega), nI_toInt (by omega)]
        have hexit : loop (fun z => Md_home_l192 (nI d) (nI jr) m' z.1 z.2) (nI (mq y d n), nI n) = if (sm.1 4 + nI (mq y d n)) ≤ (40 : Int32) then ((f_Md_endSpan (nI jr) (nI d) m').bind fun s1 => bd2 (f_Md_moveAll (nI d) s1) fun v2 s3 => some (v2, s3)) else (some ((-3 : Int32), m')) := by
          refine loop_xit ?_
          show Md_home_l192 (nI d) (nI jr) m' (nI (mq y d n)) (nI n) = _
          unfold Md_home_l192
          rw [m5, if_pos (Int32.le_refl _), m4]
        rw [hexit]
        by_cases c3 : (sm.1 4 + nI (mq y d n)) ≤ (40 : Int32)
        · rw [if_pos c3, if_pos c3]
          rw [fa_le, hadd] at c3
          have c3 : (sm.1 4).toInt + (mq y d n : Int) ≤ 40 := c3
          -- the span ends
          have hsc := cl_ti hS.2.1.1
          have hsn := cnt_nI hS.2.1.1
          obtain ⟨sp, hsp⟩ : ∃ sp, (sm.1 3).toNatClampNeg = sp + 1 := ⟨(sm.1 3).toNatClampNeg - 1, by omega⟩
          rw [hsp] at hsc hsn
          have m3 : m'.1 3 = nI (sp + 1) := (FM'.1 3 (by omega)).trans hsn
          have m7 : m'.2 7 = sm.2 7 := FM'.2 7 (by omega)
          have m8 : m'.2 8 = sm.2 8 := FM'.2 8 (by omega)
          have m9 : m'.2 9 = sm.2 9 := FM'.2 9 (by omega)
          obtain ⟨z, z1, z2⟩ := endSpan_eq (m := m') (n := sp) (jr := jr) (day := d) m3 (by omega) (by omega) hd (by rw [m8]; exact hm1)
          rw [z1, Option.bind_some]
          rw [m8, m7, m9] at z2
          -- what of the reference is as before
          have Z1 : ∀ j, j ≠ 3 → z.1 j = m'.1 j := fun j hj => by
            rcases z2 with ⟨-, e⟩ | ⟨-, e⟩
            · rw [e]; rfl
            · rw [e]; exact if_neg hj
          have Z2 : ∀ j, j < 7 ∨ 9 < j → z.2 j = m'.2 j := fun j hj => by
            rcases z2 with ⟨-, e⟩ | ⟨-, e⟩
            · rw [e]; exact if_neg (by omega)
            · rw [e]
              show (if j = 7 then _ else if j = 8 then _ else if j = 9 then _ else m'.2 j) = m'.2 j
              rw [if_neg (by omega), if_neg (by omega), if_neg (by omega)]
          have JTz : JT y z := by
            have e1 : z.1 4 = sm.1 4 := (Z1 4 (by omega)).trans m4
            have e2 : z.1 2 = sm.1 2 := (Z1 2 (by omega)).trans (FM'.1 2 (by omega))
            have e3 : z.1 1 = sm.1 1 := (Z1 1 (by omega)).trans (FM'.1 1 (by omega))
            have e4 : z.2 10 = sm.2 10 := (Z2 10 (by omega)).trans (FM'.2 10 (by omega))
            have e5 : z.2 11 = sm.2 11 := (Z2 11 (by omega)).trans m11
            have e6 : z.2 12 = sm.2 12 := (Z2 12 (by omega)).trans m12
            have e7 : z.2 13 = sm.2 13 := (Z2 13 (by omega)).trans m13
            have e8 : z.2 6 = sm.2 6 := (Z2 6 (by omega)).trans (FM'.2 6 (by omega))
            have a4 : y.2 14 = sx.2 14 := FY.2 14 (by omega)
            have a5 : y.2 15 = sx.2 15 := FY.2 15 (by omega)
            have a6 : y.2 16 = sx.2 16 := FY.2 16 (by omega)
            have a7 : y.2 17 = sx.2 17 := FY.2 17 (by omega)
            unfold JT
            rw [e1, e2, e3, e4, e5, e6, e7, e8, a4, a5, a6, a7, y5]
            exact ⟨rfl, t2, t3, t4, t5, t6, t7⟩
          obtain ⟨x7, m7', g, r1, r2, r3, r4, r5, r6, r7⟩ := carry (x0 := y) (m0 := z) (day := d) (n := n) (B := B) (st := st) L5 hd (by rw [Z1 1 (by omega), FM'.1 1 (by omega)]; omega) y6 ((Z1 5 (by omega)).trans m5) JTz
            (by rw [FY.2 0 (by omega), Z2 17 (by omega), FM'.2 17 (by omega)]; exact hK.2.1) (by rw [FY.2 1 (by omega), Z2 18 (by omega), FM'.2 18 (by omega)]; exact hK.2.2.1) (by rw [FY.2 2 (by omega), Z2 19 (by omega), FM'.2 19 (by omega)]; exact hK.2.2.2.1)
            (fun k hk => by
              obtain ⟨p1, p2, p3, p4, p5, p6, p7, p8, p9⟩ := L10 k hk
              obtain ⟨v1, v2, v3, v4, v5⟩ := hz k hk
              rw [y18, Z2 14 (by omega), Z2 16 (by omega), Z2 11 (by omega), Z2 12 (by omega), Z2 13 (by omega), Z1 4 (by omega), m4, m13]
              exact ⟨p3, v1, by omega, v3, v4, v5, p2, (d7 hf k hk).2⟩) L11 (by rw [Z1 4 (by omega), m4]; exact c3)
          rw [r1, Option.bind_some, bd2_some, r2, bd2_some, r3]
          have gle : 0 ≤ (nI g).toInt := by rw [← r3, r7.1]; exact r7.2.2.2.2.1
          rw [if_pos (by rw [fa_le]; exact gle : (0 : Int32) ≤ nI g), chk_t h60, bnd_eq, hck]
          have x12 : x7.2 12 = sx.2 12 := (r4.2 12 (by omega)).trans (FY.2 12 (by omega))
          have x11 : x7.2 11 = sx.2 11 := (r4.2 11 (by omega)).trans (FY.2 11 (by omega))
          have x13 : x7.2 13 = upd (sx.2 13) kx (nI d) := (r4.2 13 (by omega)).trans (FY.2 13 (by omega))
          have x4 : x7.1 4 = sm.1 3 := ((r4.1 4 (by omega) (by omega)).trans (FY.1 4 (by omega))).trans hS.1
          have mz3 : m7'.1 3 = z.1 3 := r5.1 3 (by omega) (by omega)
          have mz2 : m7'.1 2 = sm.1 2 := ((r5.1 2 (by omega) (by omega)).trans (Z1 2 (by omega))).trans (FM'.1 2 (by omega))
          have mz6 : m7'.2 6 = sm.2 6 := ((r5.2 6 (by omega)).trans (Z2 6 (by omega))).trans (FM'.2 6 (by omega))
          have mz7 : m7'.2 7 = z.2 7 := r5.2 7 (by omega)
          have mz8 : m7'.2 8 = z.2 8 := r5.2 8 (by omega)
          have mz9 : m7'.2 9 = z.2 9 := r5.2 9 (by omega)
          have FX7 : FXH sx x7 := by
            refine ⟨fun j hj => ((r4.1 j (by omega) (by omega)).trans (FY.1 j (by omega))).trans rfl, fun j hj => ((r4.2 j (by omega)).trans (FY.2 j (by omega))).trans ?_⟩
            exact if_neg (by omega)
          have FM7 : FMH sm m7' := ⟨fun j hj => ((r5.1 j (by omega) (by omega)).trans (Z1 j (by omega))).trans (FM'.1 j (by omega)), fun j hj => ((r5.2 j (by omega)).trans (Z2 j (by omega))).trans (FM'.2 j (by omega))⟩
          have hsame : (sx.2 12 kx).toInt = (sm.2 8 jr).toInt := by
            obtain ⟨ff, ⟨hf1, hf2⟩, hf3⟩ := same_span hS
            have := hf3 kx jr d hkx hjr (by rw [hmb, hxb]) hm1 hm2 hx1 hx2
            rw [(hf1 kx hkx).2.2.1, this]
          rw [x12]
          rcases z2 with ⟨u1, u2⟩ | ⟨u1, u2⟩
          · have ne : ¬ sx.2 12 kx = nI d := fun q => by
              rw [fa_eq, hdi] at q
              omega
            rw [if_neg ne]
            refine ⟨nI g, x7, m7', rfl, rfl, inv_h h FX7 FM7 ?_ r6 r7⟩
            refine js_cut hS (day := d) hkx hjr (by rw [hmb, hxb]) u1 hm2 hx1 hx2 (x4.trans hS.1.symm) x11 x12 x13 ?_ mz2 mz6 ?_ ?_ ?_
            · rw [mz3, u2]; exact FM'.1 3 (by omega)
            · rw [mz7, u2]; exact m7
            · rw [mz8, u2]; exact m8
            · rw [mz9, u2]
              show upd (m'.2 9) jr (nI d) = _
              rw [m9]
          · have eq : sx.2 12 kx = nI d := by
              rw [fa_eq, hdi]
              omega
            rw [if_pos eq, remove_eq (n := sp) (by rw [x4]; exact hsn) (by omega) (by omega), Option.bind_some]
            refine ⟨nI g, _, m7', rfl, rfl, inv_h h ?_ FM7 ?_ r6 r7⟩
            · refine ⟨fun j hj => ?_, fun j hj => ?_⟩
              · show (if j = 4 then nI sp else x7.1 j) = sx.1 j
                rw [if_neg (by omega)]; exact FX7.1 j hj
              · show (if j = 13 then _ else if j = 12 then _ else if j = 11 then _ else x7.2 j) = sx.2 j
                rw [if_neg (by omega), if_neg (by omega), if_neg (by omega)]
                exact FX7.2 j hj
            · refine js_rem hS (n := sp) (kx := kx) (jr := jr) (day := d) hsn (by omega) (by omega) (by omega) (by rw [hmb, hxb]) hm1 hm2 hx1 hx2 rfl (fun k hk => ?_) ?_ mz2 mz6 (fun j hj => ?_)
              · show upd (x7.2 11) kx (x7.2 11 sp) k = _ ∧ upd (x7.2 12) kx (x7.2 12 sp) k = _ ∧ upd (x7.2 13) kx (x7.2 13 sp) k = _
                rw [x11, x12, x13]
                by_cases e : k = kx
                · rw [if_pos e, e, pk_us, pk_us, pk_us, pk_un (by omega)]
                  exact ⟨rfl, rfl, rfl⟩
                · rw [if_neg e, pk_un e, pk_un e, pk_un e, pk_un e]
                  exact ⟨rfl, rfl, rfl⟩
              · rw [mz3, u2]; rfl
              · rw [mz7, mz8, mz9, u2]
                show sf (sm.2 7) jr sp j = _ ∧ sf (sm.2 8) jr sp j = _ ∧ sf (upd (sm.2 9) jr (nI d)) jr sp j = _
                unfold sf
                by_cases e : j < jr
                · rw [if_pos e, if_neg (by omega), if_neg (by omega), if_neg (by omega), pk_un (by omega)]
                  exact ⟨rfl, rfl, rfl⟩
                · rw [if_neg e, if_pos (by omega), if_pos (by omega), if_pos (by omega), pk_un (by omega)]
                  exact ⟨rfl, rfl, rfl⟩
        · rw [if_neg c3, if_neg c3, bd2_some]
          exact neg (-3) y m' (by decide) FY FM'
theorem st_home : St_home Inv := by
  intro a1 a2 sx sm h
  obtain ⟨hL, hB, hO, hH, hS, hT, hK, hC, hW, hP, hR, hU⟩ := id h
  obtain ⟨o1, o2, o3, o4, o5, o6, o7⟩ := id hO
  have o62 := o6.2
  have s22 := hS.2.1.2
  have mnone : ∀ (k : Option (Int32 × MS)), (¬ (0 ≤ a2.toInt ∧ a2.toInt ≤ 399)) → f_Md_home a1 a2 sm = some (-1, sm) := by
    intro _ c2
    unfold f_Md_home
    by_cases c1 : 0 ≤ a1.toInt ∧ a1.toInt < (sm.1 2).toInt
    · rw [ib_t o6 c1, Option.bind_some, if10, chk_t (inb_of o6 c1), bnd_eq]
      by_cases c3 : sm.2 6 a1.toNatClampNeg < 0
      · rw [if_pos c3]
      · rw [if_neg c3, in_f (lo := 0) (hi := 399) c2, Option.bind_some, if00]
    · rw [ib_f o6 c1, Option.bind_some, if00]
  by_cases c2 : 0 ≤ a2.toInt ∧ a2.toInt ≤ 399
  · have e2 := cnt_nI c2.1
    have k2 := cl_ti c2.1
    obtain ⟨d, fd⟩ : ∃ n, n = a2.toNatClampNeg := ⟨_, rfl⟩
    rw [← fd] at e2 k2
    rcases find_eq hS a1 (d := d) (by omega) with ⟨q1, q2⟩ | ⟨q1, kx, q2, q3, q4⟩
    · unfold f_Hb_home
      rw [e2, q2, Option.bind_some, if_pos rfl]
      refine ⟨-1, sx, sm, rfl, ?_, h⟩
      unfold f_Md_home
      by_cases c1 : 0 ≤ a1.toInt ∧ a1.toInt < (sm.1 2).toInt
      · rw [ib_t o6 c1, Option.bind_some, if10, chk_t (inb_of o6 c1), bnd_eq]
        by_cases c3 : sm.2 6 a1.toNatClampNeg < 0
        · rw [if_pos c3]
        · rw [if_neg c3, ← e2, in_t (lo := 0) (hi := 399) c2, Option.bind_some, if10, e2, (isAway_says hS a1 (by omega)).2 q1, Option.bind_some, if00]
      · rw [ib_f o6 c1, Option.bind_some, if00]
    · obtain ⟨r1, r2, r3⟩ := cov_iff.mp q3
      obtain ⟨j0, j1, j2, j3, j4⟩ := id q1
      obtain ⟨s4a, s4b, s4c, s4d, s4e, s4f⟩ := hS.2.2.2.1 j0 j1
      rw [j2] at s4a s4b s4c
      have e1 := cnt_nI s4a
      have k1 := cl_ti s4a
      -- the reference's span
      obtain ⟨jr, g1, ⟨g2, g3, g4⟩, g5⟩ := least (P := fun j => sm.2 7 j = a1 ∧ (sm.2 8 j).toInt ≤ (d : Int) ∧ (d : Int) < (sm.2 9 j).toInt) j0 ⟨j2, j3, j4⟩
      have hjr : (jr : Int) < (sm.1 3).toInt := by omega
      obtain ⟨u1, u2, u3, u4, u5, u6⟩ := hS.2.2.2.1 jr hjr
      have hEn : sm.2 9 jr = nI (sm.2 9 jr).toNatClampNeg := cnt_nI (by omega)
      have hEc := cl_ti (x := sm.2 9 jr) (by omega)
      obtain ⟨ff, ⟨hf1, hf2⟩, hf3⟩ := same_span hS
      have hfk := hf3 kx jr d q2 hjr (by rw [r1, g2]) g3 g4 r2 r3
      have hxE : sx.2 13 kx = sm.2 9 jr := by rw [(hf1 kx q2).2.2.2, hfk]
      have hdi : (nI d).toInt = (d : Int) := nI_toInt (by omega)
      have h60 : inb (nI kx) 60 = true := ib_nI (by omega) (by omega)
      have hne : ¬ nI kx = (-1 : Int32) := fun q => by
        rw [fa_eq, nI_toInt (by omega)] at q
        have q : (kx : Int) = -1 := q
        omega
      obtain ⟨r, sx2, sm2, z1, z2, z3⟩ := home_eq h (bo := a1.toNatClampNeg) (d := d) (kx := kx) (jr := jr) (E := (sm.2 9 jr).toNatClampNeg) (by omega) (by omega) q2 hjr (by rw [r1]; exact e1) r2 r3 (by rw [g2]; exact e1) g3 g4 hEn (by rw [hxE]; exact hEn) (by omega)
      refine ⟨r, sx2, sm2, ?_, ?_, z3⟩
      · unfold f_Hb_home
        rw [e2, q4, Option.bind_some, if_neg hne, chk_t h60, bnd_eq, chk_t h60, bnd_eq]
        rw [← hEn, ← hxE] at z1
        rw [show (nI kx).toNatClampNeg = kx from nI_clamp (by omega)] at z1 ⊢
        exact z1
      · unfold f_Md_home
        have c1 : 0 ≤ a1.toInt ∧ a1.toInt < (sm.1 2).toInt := ⟨s4a, s4b⟩
        rw [ib_t o6 c1, Option.bind_some, if10, chk_t (inb_of o6 c1), bnd_eq, if_neg (by rw [fa_lt]; show ¬ (sm.2 6 a1.toNatClampNeg).toInt < 0; omega : ¬ sm.2 6 a1.toNatClampNeg < 0), in_t (lo := 0) (hi := 399) c2, Option.bind_some, if10, e2, (isAway_says hS a1 (by omega)).1 q1, Option.bind_some, if10]
        have hl0 : loop (fun z => Md_home_l41 a1 (nI d) sm z) (0 : Int32) = loop (fun z => Md_home_l41 a1 (nI d) sm z) (nI jr) := by
          rw [← nI_0]
          refine loop_to (f := fun z => Md_home_l41 a1 (nI d) sm z) (fun k : Nat => nI k) jr (fun k hk => ?_) jr (Nat.le_refl jr)
          show Md_home_l41 a1 (nI d) sm (nI k) = some (.inl (nI (k + 1)))
          have hno := g5 k hk
          have h60k : inb (nI k) 60 = true := ib_nI (by omega) (by omega)
          unfold Md_home_l41
          simp only [chk_t h60k, bnd_eq, nI_clamp (show k < 2 ^ 31 by omega), nI_1]
          by_cases y1 : sm.2 7 k = a1
          · rw [if_pos y1]
            by_cases y2 : nI d < sm.2 8 k
            · rw [if_pos y2]
            · rw [if_neg y2]
              rw [fa_lt, hdi] at y2
              rw [if_neg (fun q => hno ⟨y1, by omega, by rw [fa_lt, hdi] at q; exact q⟩ : ¬ nI d < sm.2 9 k)]
          · rw [if_neg y1]
        rw [hl0]
        refine (loop_xit (o := loop (fun z => Md_home_l85 a1 (nI d) (nI jr) z.1 z.2) ((0 : Int32), pf sm 5 0)) ?_).trans ?_
        · show Md_home_l41 a1 (nI d) sm (nI jr) = _
          have h60j : inb (nI jr) 60 = true := ib_nI (by omega) (by omega)
          unfold Md_home_l41
          simp only [chk_t h60j, bnd_eq, nI_clamp (show jr < 2 ^ 31 by omega), nI_1]
          rw [if_pos g2, if_neg (by rw [fa_lt, hdi]; omega : ¬ nI d < sm.2 8 jr), if_pos (by rw [fa_lt, hdi]; omega : nI d < sm.2 9 jr)]
        · rw [← e1] at z2
          exact z2
  · unfold f_Hb_home
    rw [find_none hS a1 a2 c2, Option.bind_some, if_pos rfl]
    exact ⟨-1, sx, sm, rfl, mnone none c2, h⟩
