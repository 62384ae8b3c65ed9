-- ===== winter =====
theorem pa_f (s : MS) (i k : Nat) (v : Int32) : (pa s i k v).1 = s.1 := rfl
theorem pr_f (s : MS) (i : Nat) (f : Nat → Int32) : (pr s i f).1 = s.1 := rfl
theorem pf_r (s : MS) (i : Nat) (v : Int32) : (pf s i v).2 = s.2 := rfl
theorem fr_eq {x s : MS} (h : Fr x s) : s = pr (pr (pr (pf x 15 (s.1 15)) 31 (s.2 31)) 35 (s.2 35)) 36 (s.2 36) := by
  refine Prod.ext (funext fun j => ?_) (funext fun j => ?_)
  · show s.1 j = if j = 15 then s.1 15 else x.1 j
    by_cases e : j = 15
    · rw [if_pos e, e]
    · rw [if_neg e]; exact h.1 j e
  · show s.2 j = if j = 36 then s.2 36 else if j = 35 then s.2 35 else if j = 31 then s.2 31 else x.2 j
    by_cases e1 : j = 36
    · rw [if_pos e1, e1]
    · by_cases e2 : j = 35
      · rw [if_neg e1, if_pos e2, e2]
      · by_cases e3 : j = 31
        · rw [if_neg e1, if_neg e2, if_pos e3, e3]
        · rw [if_neg e1, if_neg e2, if_neg e3]; exact h.2 j e3 e2 e1
theorem isin_says {x m : MS} (hW : JW x m) (b : Int32) : Says (f_Shed_isIn b x) (∃ k : Nat, (k : Int) < (m.1 18).toInt ∧ m.2 25 k = b) := by
  obtain ⟨w1, w2, w3, w4, w5, w6, -⟩ := id hW
  have w62 := w6.2
  have hc := cl_ti w6.1
  have hn := cnt_nI w6.1
  obtain ⟨n, hnn⟩ : ∃ n, n = (m.1 18).toNatClampNeg := ⟨_, rfl⟩
  rw [← hnn] at hc hn
  unfold f_Shed_isIn
  rw [← nI_0]
  rcases loop_first (f := fun z => Shed_isIn_l2 b x z) (fun k => m.2 25 k = b) (fun _ => (1 : Int32)) 0 n (by
      show Shed_isIn_l2 b x (nI n) = _
      unfold Shed_isIn_l2
      rw [w1, hn, if_pos (Int32.le_refl _)]
      rfl) n 0 (by omega) (fun k h1 h2 c => by
      show Shed_isIn_l2 b x (nI k) = _
      unfold Shed_isIn_l2
      rw [w1, hn, if_neg (nI_ge h2 (by omega)), chk_t (ib_nI (by omega) (by omega)), bnd_eq, nI_clamp (n := k) (by omega), w4, if_neg c, bnd_eq, nI_1]) (fun k h1 h2 c => by
      show Shed_isIn_l2 b x (nI k) = _
      unfold Shed_isIn_l2
      rw [w1, hn, if_neg (nI_ge h2 (by omega)), chk_t (ib_nI (by omega) (by omega)), bnd_eq, nI_clamp (n := k) (by omega), w4, if_pos c]
      rfl) with ⟨z1, z2⟩ | ⟨d, z1, z2, z3, z4, z5⟩
  · exact ⟨fun ⟨k, k1, k2⟩ => absurd k2 (z1 k (by omega) (by omega)), fun _ => z2⟩
  · exact ⟨fun _ => z5, fun q => absurd ⟨d, by omega, z3⟩ q⟩
theorem mwin_eq {x m : MS} (hW : JW x m) (b o : Int32) (hlt : (m.1 18).toInt < 9) : ((∃ k : Nat, (k : Int) < (m.1 18).toInt ∧ m.2 25 k = b) ∧ loop (fun z => Md_winter_l32 b o m z) (0 : Int32) = some (-1, m)) ∨ ((¬ ∃ k : Nat, (k : Int) < (m.1 18).toInt ∧ m.2 25 k = b) ∧ loop (fun z => Md_winter_l32 b o m z) (0 : Int32) = some (nI ((m.1 18).toNatClampNeg + 1), pf (pa (pa m 25 (m.1 18).toNatClampNeg b) 26 (m.1 18).toNatClampNeg o) 18 (nI ((m.1 18).toNatClampNeg + 1)))) := by
  obtain ⟨w1, w2, w3, w4, w5, w6, -⟩ := id hW
  have hc := cl_ti w6.1
  have hn := cnt_nI w6.1
  obtain ⟨n, hnn⟩ : ∃ n, n = (m.1 18).toNatClampNeg := ⟨_, rfl⟩
  rw [← hnn] at hc hn ⊢
  rw [← nI_0]
  rcases loop_first (f := fun z => Md_winter_l32 b o m z) (fun k => m.2 25 k = b) (fun _ => ((-1 : Int32), m)) (nI (n + 1), pf (pa (pa m 25 n b) 26 n o) 18 (nI (n + 1))) n (by
      show Md_winter_l32 b o m (nI n) = _
      unfold Md_winter_l32
      simp only [pa_f, hn, if_pos (Int32.le_refl (nI n)), chk_t (ib_nI (show n < 9 by omega) (by omega)), bnd_eq, nI_clamp (show n < 2 ^ 31 by omega), nI_1]
      rfl) n 0 (by omega) (fun k h1 h2 c => by
      show Md_winter_l32 b o m (nI k) = _
      unfold Md_winter_l32
      rw [hn, if_neg (nI_ge h2 (by omega)), chk_t (ib_nI (by omega) (by omega)), bnd_eq, nI_clamp (n := k) (by omega), if_neg c, bnd_eq, nI_1]) (fun k h1 h2 c => by
      show Md_winter_l32 b o m (nI k) = _
      unfold Md_winter_l32
      rw [hn, if_neg (nI_ge h2 (by omega)), chk_t (ib_nI (by omega) (by omega)), bnd_eq, nI_clamp (n := k) (by omega), if_pos c]
      rfl) with ⟨z1, z2⟩ | ⟨d, z1, z2, z3, z4, z5⟩
  · exact Or.inr ⟨fun ⟨k, k1, k2⟩ => absurd k2 (z1 k (by omega) (by omega)), z2⟩
  · exact Or.inl ⟨⟨d, by omega, z3⟩, z5⟩
theorem st_winter : St_winter Inv := by
  intro a1 a2 sx sm h
  obtain ⟨hL, hB, hO, hH, hS, hT, hK, hC, hW, hP, hR, hU⟩ := id h
  obtain ⟨o1, o2, o3, o4, o5, o6, o7⟩ := id hO
  obtain ⟨w1, w2, w3, w4, w5, w6, w7, w8, w9, w10, w11⟩ := id hW
  unfold f_Hb_winter f_Boats_has f_Md_winter
  by_cases c1 : 0 ≤ a1.toInt ∧ a1.toInt < (sm.1 2).toInt
  · have hi := inb_of o6 c1
    rw [ib_t o6 c1, o1, has_t c1, Option.bind_some, Option.bind_some, if10, if10]
    by_cases c2 : 0 ≤ a2.toInt ∧ a2.toInt ≤ 399
    · rw [day_t c2, in_t (lo := 0) (hi := 399) c2, Option.bind_some, Option.bind_some, if10, if10, chk_t hi, bnd_eq]
      unfold f_Shed_add
      have w62 := w6.2
      by_cases c3 : sm.1 18 = (9 : Int32)
      · rw [if_pos c3, if_pos (by rw [w1, c3]; decide : (9 : Int32) ≤ sx.1 14)]
        exact ⟨-1, _, _, rfl, rfl, h⟩
      · have hlt : (sm.1 18).toInt < 9 := by
          rw [fa_eq] at c3
          have c3 : ¬ (sm.1 18).toInt = 9 := c3
          omega
        rw [if_neg c3, if_neg (by rw [w1, fa_le]; show ¬ (9 : Int) ≤ _; omega : ¬ (9 : Int32) ≤ sx.1 14)]
        have hx := isin_says hW a1
        have hc := cl_ti w6.1
        have hn := cnt_nI w6.1
        have hca := cl_ti c1.1
        rcases mwin_eq hW a1 a2 hlt with ⟨z1, z2⟩ | ⟨z1, z2⟩
        · rw [hx.1 z1, z2, Option.bind_some, if10]
          exact ⟨-1, _, _, rfl, rfl, h⟩
        · rw [hx.2 z1, z2, Option.bind_some, if00]
          obtain ⟨n, hnn⟩ : ∃ n, n = (sm.1 18).toNatClampNeg := ⟨_, rfl⟩
          rw [← hnn] at hc hn w11 ⊢
          have e14 : sx.1 14 = nI n := w1.trans hn
          obtain ⟨ln, hln⟩ : ∃ ln, ln = sx.2 7 a1.toNatClampNeg := ⟨_, rfl⟩
          have hlr : 10 ≤ ln.toInt ∧ ln.toInt ≤ 400 := by
            rw [hln, o2]
            have := o7 a1.toNatClampNeg (by omega)
            omega
          simp only [pa_f, e14, chk_t (ib_nI (show n < 9 by omega) (by omega)), bnd_eq, nI_clamp (show n < 2 ^ 31 by omega), nI_1]
          rw [← hln]
          obtain ⟨y, hy⟩ : ∃ y, y = pf (pf (pa (pa (pa sx 32 n a1) 33 n ln) 34 n a2) 14 (nI (n + 1))) 15 81 := ⟨_, rfl⟩
          have y33 : y.2 33 = upd (sx.2 33) n ln := by rw [hy]; rfl
          have y34 : y.2 34 = upd (sx.2 34) n a2 := by rw [hy]; rfl
          have y36 : y.2 36 = sx.2 36 := by rw [hy]; rfl
          have y15 : y.1 15 = 81 := by rw [hy]; rfl
          have y14 : y.1 14 = nI (n + 1) := by rw [hy]; rfl
          have hsc := cl_ti (x := sm.1 16) (by omega)
          have hsn : sm.1 16 = nI (sm.1 16).toNatClampNeg := cnt_nI (by omega)
          have hSH : SH y (n + 1) (sm.1 16).toNatClampNeg (sm.1 17).toInt := by
            refine ⟨y14, by omega, ?_, by omega, by omega, ?_, w8.2, fun k hk => ?_⟩
            · rw [hy]; exact w2.trans hsn
            · rw [hy]; exact congrArg Int32.toInt w3
            · rw [y33]
              by_cases e : k = n
              · rw [e, pk_us]; exact hlr
              · rw [pk_un e]
                obtain ⟨p1, p2, p3, -⟩ := w10 k (by omega)
                have hcb := cl_ti p1
                have := o7 (sm.2 25 k).toNatClampNeg (by omega)
                rw [p3]
                omega
          obtain ⟨s', k1, k2, k3, k4, k5⟩ := put_ok hSH 11 0 (fun _ => 0) 0 y (by omega) (by omega) ⟨fun _ _ => rfl, fun _ _ _ _ => rfl⟩ (fun k hk => absurd hk (by omega)) (fun k hk => absurd hk (by omega)) (fun k hk => absurd hk (by omega)) (fun l hl => by rw [y36, w9 l hl]; rfl) (fun l hl => by show (0 : Int) ≤ _; omega) rfl (by rw [y15]; decide) (by rw [y15]; decide)
          rw [show us (fun _ => 0) 0 = 0 from rfl, nI_0] at k1
          rw [← hy, k1, Option.bind_some]
          rw [y15] at k5
          have hsol := sol_of_can (n := n + 1) (by omega) (few := s'.1 15) (B := y.2 31) (B' := s'.2 31) (res_iff (S := SS (n + 1) (sm.1 16).toNatClampNeg (sm.1 17).toInt (y.2 33) 0 (fun _ => 0)) (T := fun b => sh_ok (n + 1) (sm.1 16).toNatClampNeg b ∧ sh_fit (n + 1) (sm.1 16).toNatClampNeg (sm.1 17).toInt (y.2 33) b ∧ can (n + 1) b) (fun b => ⟨fun q => ⟨q.1, q.2.1, q.2.2.1⟩, fun q => ⟨q.1, q.2.1, q.2.2, fun k hk => absurd hk (by omega)⟩⟩) k5)
          have s14 : s'.1 14 = nI (n + 1) := (k2.1 14 (by omega)).trans y14
          have s36 : ∀ l, l < 4 → s'.2 36 l = 0 := fun l hl => by rw [k4 l hl, y36, w9 l hl]
          have he := fr_eq k2
          obtain ⟨v15, hv15⟩ : ∃ v, v = s'.1 15 := ⟨_, rfl⟩
          obtain ⟨B31, hB31⟩ : ∃ v, v = s'.2 31 := ⟨_, rfl⟩
          obtain ⟨P35, hP35⟩ : ∃ v, v = s'.2 35 := ⟨_, rfl⟩
          obtain ⟨F36, hF36⟩ : ∃ v, v = s'.2 36 := ⟨_, rfl⟩
          rw [← hv15, ← hB31, ← hP35, ← hF36] at he
          rw [← hv15, ← hB31] at hsol
          rw [← hF36] at s36
          refine ⟨nI (n + 1), s', _, by rw [bd2_some, s14], rfl, ?_⟩
          rw [he, hy]
          have hcn : (nI (n + 1)).toNatClampNeg = n + 1 := nI_clamp (by omega)
          have htn : (nI (n + 1)).toInt = ((n + 1 : Nat) : Int) := nI_toInt (by omega)
          refine ⟨hL, hB, hO, hH, hS, hT, hK, hC, ⟨rfl, w2, w3, ?_, ?_, ?_, w7, w8, s36, ?_, ?_⟩, hP, hR, hU⟩
          · show upd (sx.2 32) n a1 = upd (sm.2 25) n a1
            rw [w4]
          · show upd (sx.2 34) n a2 = upd (sm.2 26) n a2
            rw [w5]
          · show cnt (nI (n + 1)) 9
            exact ⟨by omega, by omega⟩
          · intro k hk
            have hk : (k : Int) < (nI (n + 1)).toInt := hk
            show 0 ≤ (upd (sm.2 25) n a1 k).toInt ∧ (upd (sm.2 25) n a1 k).toInt < (sm.1 2).toInt ∧ upd (sx.2 33) n ln k = sm.2 3 (upd (sm.2 25) n a1 k).toNatClampNeg ∧ 0 ≤ (upd (sm.2 26) n a2 k).toInt ∧ (upd (sm.2 26) n a2 k).toInt ≤ 399
            by_cases e : k = n
            · rw [e, pk_us, pk_us, pk_us]
              exact ⟨c1.1, c1.2, by rw [hln, o2], c2.1, c2.2⟩
            · rw [pk_un e, pk_un e, pk_un e]
              exact w10 k (by omega)
          · show sh_sol (nI (n + 1)).toNatClampNeg (sm.1 16).toNatClampNeg (sm.1 17).toInt (upd (sx.2 33) n ln) (upd (sx.2 34) n a2) v15 B31
            rw [hcn, ← y33, ← y34]
            exact hsol
    · rw [day_f c2, in_f (lo := 0) (hi := 399) c2]
      exact ⟨-1, _, _, rfl, rfl, h⟩
  · rw [ib_f o6 c1, o1, has_f c1]
    exact ⟨-1, _, _, rfl, rfl, h⟩
