-- ===== the moves are carried out =====
theorem upd_upd (f : Nat → Int32) (k : Nat) (a b : Int32) : upd (upd f k a) k b = upd f k b := funext fun j => by
  show (if j = k then b else if j = k then a else f j) = if j = k then b else f j
  by_cases e : j = k
  · rw [if_pos e, if_pos e]
  · rw [if_neg e, if_neg e, if_neg e]
theorem upd_self (f : Nat → Int32) (k : Nat) : upd f k (f k) = f := funext fun j => by
  show (if j = k then f k else f j) = f j
  by_cases e : j = k
  · rw [if_pos e, e]
  · rw [if_neg e]
/-- what carrying out changes -/
def FCx (x y : MS) : Prop := (∀ j, j ≠ 0 → j ≠ 5 → y.1 j = x.1 j) ∧ (∀ j, (3 ≤ j ∧ j ≤ 13) ∨ 17 < j → y.2 j = x.2 j)
def FCm (m y : MS) : Prop := (∀ j, j ≠ 4 → j ≠ 11 → y.1 j = m.1 j) ∧ (∀ j, j < 10 ∨ (14 ≤ j ∧ j ≤ 16) ∨ 19 < j → y.2 j = m.2 j)
theorem fcx_pf {x y : MS} (h : FCx x y) {i : Nat} {v : Int32} (hi : i = 0 ∨ i = 5) : FCx x (pf y i v) := ⟨fun j h1 h2 => by
  show (if j = i then v else y.1 j) = x.1 j
  rw [if_neg (by omega)]; exact h.1 j h1 h2, h.2⟩
theorem fcx_pa {x y : MS} (h : FCx x y) {i k : Nat} {v : Int32} (hi : i < 3 ∨ (14 ≤ i ∧ i ≤ 17)) : FCx x (pa y i k v) := ⟨h.1, fun j hj => by
  show (if j = i then upd (y.2 i) k v else y.2 j) = x.2 j
  rw [if_neg (by omega)]; exact h.2 j hj⟩
theorem fcm_pf {x y : MS} (h : FCm x y) {i : Nat} {v : Int32} (hi : i = 4 ∨ i = 11) : FCm x (pf y i v) := ⟨fun j h1 h2 => by
  show (if j = i then v else y.1 j) = x.1 j
  rw [if_neg (by omega)]; exact h.1 j h1 h2, h.2⟩
theorem fcm_pa {x y : MS} (h : FCm x y) {i k : Nat} {v : Int32} (hi : (10 ≤ i ∧ i ≤ 13) ∨ (17 ≤ i ∧ i ≤ 19)) : FCm x (pa y i k v) := ⟨h.1, fun j hj => by
  show (if j = i then upd (y.2 i) k v else y.2 j) = x.2 j
  rw [if_neg (by omega)]; exact h.2 j hj⟩
/-- before the k-th of the walk is carried out -/
def CK (x0 m0 : MS) (day n B : Nat) (st : Nat → Nat) (k : Nat) (x m : MS) : Prop :=
  FCx x0 x ∧ FCm m0 m ∧ JT x m ∧ x.2 0 = m.2 17 ∧ x.2 1 = m.2 18 ∧ x.2 2 = m.2 19 ∧ (∃ g, g ≤ k ∧ x.1 0 = nI g ∧ m.1 11 = nI g) ∧ (m.1 4).toInt = (m0.1 4).toInt + (mq x0 day k : Int) ∧
  (∀ j, j < n → m.2 12 (st j) = m0.2 12 (st j)) ∧ ∀ j, k ≤ j → j < n → m.2 11 (st j) = m0.2 11 (st j) ∧ m.2 13 (st j) = m0.2 13 (st j)
theorem carry {x0 m0 : MS} {day n B : Nat} {st : Nat → Nat} (hn : n ≤ 12) (hday : day < 400) (hB : (m0.1 1).toInt = (B : Int)) (h6 : x0.1 6 = nI n) (h5 : m0.1 5 = nI n) (hT : JT x0 m0) (hK0 : x0.2 0 = m0.2 17) (hK1 : x0.2 1 = m0.2 18) (hK2 : x0.2 2 = m0.2 19)
    (hk : ∀ k, k < n → x0.2 18 k = nI (st k) ∧ m0.2 14 k = nI (st k) ∧ (st k : Int) < (m0.1 4).toInt ∧ x0.2 19 k = m0.2 16 k ∧ x0.2 20 k = m0.2 11 (st k) ∧ x0.2 21 k = m0.2 12 (st k) ∧ (day : Int) < (m0.2 13 (st k)).toInt ∧ ∃ b, b < B ∧ m0.2 16 k = nI b) (hst : ∀ j k, j < k → k < n → st j < st k) (hroom : (m0.1 4).toInt + (mq x0 day n : Int) ≤ 40) :
    ∃ (x' m' : MS) (g : Nat), f_Hb_carryOut (nI day) x0 = some x' ∧ f_Md_moveAll (nI day) m0 = some (nI g, m') ∧ x'.1 0 = nI g ∧ FCx x0 x' ∧ FCm m0 m' ∧ JT x' m' ∧ JK x' m' := by
  have hdi : (nI day).toInt = (day : Int) := nI_toInt (by omega)
  have t62 := hT.2.2.2.2.2.1.2
  unfold f_Hb_carryOut f_Md_moveAll
  rw [bnd_eq, bnd_eq]
  have main := loop_two (f := fun z => Hb_carryOut_l7 (nI day) z.1 z.2) (g := fun z => Md_moveAll_l7 (nI day) z.1 z.2)
    (fun k X Y => X.1 = nI k ∧ Y.1 = nI k ∧ CK x0 m0 day n B st k X.2 Y.2)
    (fun r q => ∃ g, q.1 = nI g ∧ r.1 0 = nI g ∧ FCx x0 r ∧ FCm m0 q.2 ∧ JT r q.2 ∧ JK r q.2) n (by
      rintro k ⟨z1, x⟩ ⟨z2, m⟩ hkn ⟨g1, g2, C1, C2, C3, C4, C5, C6, ⟨g, C7, C8, C9⟩, C10, C11, C12⟩
      have g1 : z1 = nI k := g1
      have g2 : z2 = nI k := g2
      have C1 : FCx x0 x := C1
      have C2 : FCm m0 m := C2
      have C3 : JT x m := C3
      have C4 : x.2 0 = m.2 17 := C4
      have C5 : x.2 1 = m.2 18 := C5
      have C6 : x.2 2 = m.2 19 := C6
      have C8 : x.1 0 = nI g := C8
      have C9 : m.1 11 = nI g := C9
      have C10 : (m.1 4).toInt = (m0.1 4).toInt + (mq x0 day k : Int) := C10
      have C11 : ∀ j, j < n → m.2 12 (st j) = m0.2 12 (st j) := C11
      have C12 : ∀ j, k ≤ j → j < n → m.2 11 (st j) = m0.2 11 (st j) ∧ m.2 13 (st j) = m0.2 13 (st j) := C12
      obtain ⟨p1, p2, p3, p4, p5, p6, p7, b, p8, p9⟩ := hk k hkn
      obtain ⟨t1, t2, t3, t4, t5, t6, t7⟩ := id C3
      have x6 : x.1 6 = nI n := (C1.1 6 (by omega) (by omega)).trans h6
      have x18 : x.2 18 k = nI (st k) := by rw [C1.2 18 (by omega)]; exact p1
      have x19 : x.2 19 = x0.2 19 := C1.2 19 (by omega)
      have x20 : x.2 20 = x0.2 20 := C1.2 20 (by omega)
      have m5 : m.1 5 = nI n := (C2.1 5 (by omega) (by omega)).trans h5
      have m1 : m.1 1 = m0.1 1 := C2.1 1 (by omega) (by omega)
      have m14 : m.2 14 k = nI (st k) := by rw [C2.2 14 (by omega)]; exact p2
      have m16 : m.2 16 = m0.2 16 := C2.2 16 (by omega)
      have x19k : x0.2 19 k = m0.2 16 k := p4
      obtain ⟨q11, q13⟩ := C12 k (Nat.le_refl k) hkn
      have q12 := C11 k hkn
      have hmm := mq_mono x0 day (show k + 1 ≤ n by omega)
      have hms := mq_s x0 day k
      have hsk : st k < 40 := by omega
      have hskm : (st k : Int) < (m.1 4).toInt := by omega
      have h12 : inb (nI k) 12 = true := ib_nI (by omega) (by omega)
      have h40 : inb (nI (st k)) 40 = true := ib_nI hsk (by omega)
      have hg12 : inb (nI g) 12 = true := ib_nI (by omega) (by omega)
      have hcs := nI_clamp (show st k < 2 ^ 31 by omega)
      have hck := nI_clamp (show k < 2 ^ 31 by omega)
      have hcg := nI_clamp (show g < 2 ^ 31 by omega)
      have hmvd : f_Walk_isMoved (nI k) x = some (if x0.2 19 k = x0.2 20 k then 0 else 1) := by
        unfold f_Walk_isMoved
        rw [chk_t h12, bnd_eq, chk_t h12, bnd_eq, hck, x19, x20]
        by_cases e : x0.2 19 k = x0.2 20 k
        · rw [if_pos e, if_pos e]
        · rw [if_neg e, if_neg e]
      show ∃ s' t', Hb_carryOut_l7 (nI day) z1 x = some (.inl s') ∧ Md_moveAll_l7 (nI day) z2 m = some (.inl t') ∧ _
      rw [g1, g2]
      unfold Hb_carryOut_l7 Md_moveAll_l7
      rw [x6, m5, if_neg (nI_ge hkn (by omega)), if_neg (nI_ge hkn (by omega)), hmvd, Option.bind_some]
      by_cases e1 : x0.2 19 k = x0.2 20 k
      · have e1' : m0.2 16 k = m0.2 11 (st k) := by rw [← p4, ← p5]; exact e1
        rw [if_neg (fun q => q.1 e1)] at hms
        rw [if_pos e1, if00]
        simp only [chk_t h12, bnd_eq, hck, m14, chk_t h40, hcs, m16, q11]
        rw [if_pos e1', nI_1]
        refine ⟨(nI (k + 1), x), (nI (k + 1), m), rfl, rfl, rfl, rfl, C1, C2, C3, C4, C5, C6, ⟨g, by omega, C8, C9⟩, ?_, C11, fun j h1 h2 => C12 j (by omega) h2⟩
        rw [hms]
        exact C10
      · have e1' : ¬ m0.2 16 k = m0.2 11 (st k) := by rw [← p4, ← p5]; exact e1
        rw [if_neg e1, if10]
        by_cases e2 : nI day ≤ m0.2 12 (st k)
        · -- it has not begun: its berth changes
          have e2' : ¬ m0.2 12 (st k) < nI day := by rw [fa_lt]; rw [fa_le] at e2; omega
          rw [if_neg (fun q => by have q2 := q.2; rw [p6] at q2; rw [fa_le, hdi] at e2; omega)] at hms
          have u12 : ∀ (a b : Nat) (v w : Int32), (pa (pa (pa m 17 g v) 18 g w) 19 g v).2 12 = m.2 12 := fun _ _ _ _ => rfl
          simp only [chk_t h12, bnd_eq, hck, x18, m14, chk_t h40, hcs, m16, q11, t4, q12, if_pos e2, if_neg e1', x19, x19k]
          unfold Hb_carryOut_j126 Md_moveAll_j143
          simp only [pa_f, C8, C9, chk_t hg12, chk_t h12, bnd_eq, hcg, hck, nI_1]
          have r19 : (pa (pa x 15 (st k) (m0.2 16 k)) 0 g (nI (st k))).2 19 k = m0.2 16 k := by
            show x.2 19 k = _
            rw [x19, x19k]
          have r12 : (pa (pa (pa m 17 g (nI (st k))) 18 g ((pa m 17 g (nI (st k))).2 16 k)) 19 g (nI (st k))).2 12 (st k) = m0.2 12 (st k) := q12
          have r16 : (pa m 17 g (nI (st k))).2 16 k = m0.2 16 k := by
            show m.2 16 k = _
            rw [m16]
          have r16b : (pa (pa (pa m 17 g (nI (st k))) 18 g (m0.2 16 k)) 19 g (nI (st k))).2 16 k = m0.2 16 k := by
            show m.2 16 k = _
            rw [m16]
          rw [r16] at r12
          rw [r19, r16, r12, if_neg e2', r16b]
          refine ⟨_, _, rfl, rfl, rfl, rfl, ?_⟩
          refine ⟨fcx_pf (fcx_pa (fcx_pa (fcx_pa (fcx_pa C1 (by omega)) (by omega)) (by omega)) (by omega)) (by omega), fcm_pf (fcm_pa (fcm_pa (fcm_pa (fcm_pa C2 (by omega)) (by omega)) (by omega)) (by omega)) (by omega), ?_, ?_, ?_, ?_, ⟨g + 1, by omega, rfl, rfl⟩, ?_, C11, ?_⟩
          · refine ⟨t1, t2, ?_, t4, t5, t6, fun j hj => ?_⟩
            · show upd (x.2 15) (st k) (m0.2 16 k) = upd (m.2 11) (st k) (m0.2 16 k)
              rw [t3]
            · obtain ⟨a1, a2, a3, a4, a5, a6, a7, a8⟩ := t7 j hj
              show 0 ≤ (m.2 10 j).toInt ∧ (m.2 10 j).toInt < (m.1 2).toInt ∧ (m.2 6 (m.2 10 j).toNatClampNeg).toInt = -1 ∧ 0 ≤ (upd (m.2 11) (st k) (m0.2 16 k) j).toInt ∧ (upd (m.2 11) (st k) (m0.2 16 k) j).toInt < (m.1 1).toInt ∧ 0 ≤ (m.2 12 j).toInt ∧ (m.2 12 j).toInt < (m.2 13 j).toInt ∧ (m.2 13 j).toInt ≤ 400
              by_cases e : j = st k
              · rw [e] at a1 a2 a3 a6 a7 a8 ⊢
                rw [pk_us, p9]
                have : (nI b).toInt = (b : Int) := nI_toInt (by
                  have := t6.2
                  have hbm : (m0.1 1).toInt < 2147483648 := (fb_rng _).2
                  omega)
                exact ⟨a1, a2, a3, by omega, by rw [m1]; omega, a6, a7, a8⟩
              · rw [pk_un e]
                exact ⟨a1, a2, a3, a4, a5, a6, a7, a8⟩
          · show upd (x.2 0) g (nI (st k)) = upd (m.2 17) g (nI (st k))
            rw [C4]
          · show upd (x.2 1) g (m0.2 16 k) = upd (m.2 18) g (m0.2 16 k)
            rw [C5]
          · show upd (x.2 2) g (nI (st k)) = upd (m.2 19) g (nI (st k))
            rw [C6]
          · rw [hms]
            exact C10
          · intro j h1 h2
            have hlt := hst k j (by omega) h2
            show upd (m.2 11) (st k) (m0.2 16 k) (st j) = m0.2 11 (st j) ∧ m.2 13 (st j) = m0.2 13 (st j)
            rw [pk_un (by omega)]
            exact C12 j (by omega) h2
        · -- it has begun: it is cut in two
          have e2' : m0.2 12 (st k) < nI day := by rw [fa_lt]; rw [fa_le] at e2; omega
          have e2i : (m0.2 12 (st k)).toInt < (day : Int) := by rw [fa_lt, hdi] at e2'; exact e2'
          rw [if_pos ⟨e1, by rw [p6]; exact e2i⟩] at hms
          have hcnt : (m.1 4).toInt < 40 := by omega
          have hcx : (x.1 5).toInt < 40 := by rw [t1]; exact hcnt
          obtain ⟨a1, a2, a3, a4, a5, a6, a7, a8⟩ := t7 (st k) hskm
          have hcl4 := cl_ti t6.1
          have hne : st k ≠ (m.1 4).toNatClampNeg := by omega
          have hbr : (nI b).toInt = (b : Int) := nI_toInt (by
            have hbm : (m0.1 1).toInt < 2147483648 := (fb_rng _).2
            omega)
          have hadd := jt_add C3 hcnt (b := m.2 10 (st k)) (p := m0.2 16 k) (a := nI day) (e := m0.2 13 (st k)) ⟨a1, a2⟩ a3 (by rw [p9, m1]; omega) (by rw [hdi]; rw [q13] at a8; omega)
          simp only [chk_t h12, bnd_eq, hck, x18, m14, chk_t h40, hcs, m16, q11, t4, q12, if_neg e2, if_neg e1', x19, x19k, t2, t5, q13]
          rw [sadd_eq (by rw [t1]; exact t6.1) hcx, bd2_some]
          obtain ⟨xa, hxa⟩ : ∃ xa, xa = sX x (m.2 10 (st k)) (m0.2 16 k) (nI day) (m0.2 13 (st k)) := ⟨_, rfl⟩
          rw [← hxa]
          have xa0 : xa.1 0 = nI g := by rw [hxa]; exact C8
          have xa19 : xa.2 19 k = m0.2 16 k := by
            rw [hxa]
            show x.2 19 k = _
            rw [x19, x19k]
          unfold Hb_carryOut_j126 Md_moveAll_j143
          simp only [pa_f, xa0, C9, chk_t hg12, chk_t h12, bnd_eq, hcg, hck, nI_1]
          have r19 : (pa (pa xa 17 (st k) (nI day)) 0 g (nI (st k))).2 19 k = m0.2 16 k := xa19
          have r16 : (pa m 17 g (nI (st k))).2 16 k = m0.2 16 k := by
            show m.2 16 k = _
            rw [m16]
          rw [r19, r16]
          obtain ⟨ma, hma⟩ : ∃ ma, ma = pa (pa (pa m 17 g (nI (st k))) 18 g (m0.2 16 k)) 19 g (nI (st k)) := ⟨_, rfl⟩
          have ma12 : ma.2 12 (st k) = m0.2 12 (st k) := by rw [hma]; exact q12
          have ma10 : (pa ma 19 g (m.1 4)).2 10 (st k) = m.2 10 (st k) := by rw [hma]; rfl
          have ma16 : (pa ma 19 g (m.1 4)).2 16 k = m0.2 16 k := by
            rw [hma]
            show m.2 16 k = _
            rw [m16]
          have ma13 : (pa ma 19 g (m.1 4)).2 13 (st k) = m0.2 13 (st k) := by rw [hma]; exact q13
          have ma4 : (pa ma 19 g (m.1 4)).1 4 = m.1 4 := by rw [hma]; rfl
          rw [← hma, ma12, if_pos e2', ma10, ma16, ma13, sput_eq (s := pa ma 19 g (m.1 4)) (by rw [ma4]; exact t6.1) (by rw [ma4]; exact hcnt), Option.bind_some]
          have hm11 : (sM (pa ma 19 g (m.1 4)) (m.2 10 (st k)) (m0.2 16 k) (nI day) (m0.2 13 (st k))).1 11 = nI g := by rw [hma]; exact C9
          rw [hm11, nI_1]
          refine ⟨_, _, rfl, rfl, rfl, rfl, ?_⟩
          have FX : FCx x0 xa := by
            rw [hxa]
            exact fcx_pf (fcx_pa (fcx_pa (fcx_pa (fcx_pa C1 (by omega)) (by omega)) (by omega)) (by omega)) (by omega)
          have FM : FCm m0 (sM (pa ma 19 g (m.1 4)) (m.2 10 (st k)) (m0.2 16 k) (nI day) (m0.2 13 (st k))) := by
            rw [hma]
            exact fcm_pf (fcm_pa (fcm_pa (fcm_pa (fcm_pa (fcm_pa (fcm_pa (fcm_pa (fcm_pa C2 (by omega)) (by omega)) (by omega)) (by omega)) (by omega)) (by omega)) (by omega)) (by omega)) (by omega)
          refine ⟨fcx_pf (fcx_pa (fcx_pa (fcx_pa (fcx_pa FX (by omega)) (by omega)) (by omega)) (by omega)) (by omega), fcm_pf (fcm_pa FM (by omega)) (by omega), ?_, ?_, ?_, ?_, ⟨g + 1, by omega, rfl, rfl⟩, ?_, ?_, ?_⟩
          · -- the stays
            obtain ⟨s1, s2, s3, s4, s5, s6, s7⟩ := hadd
            rw [hxa, hma]
            refine ⟨s1, s2, s3, s4, ?_, s6, fun j hj => ?_⟩
            · show upd (upd (x.2 17) (x.1 5).toNatClampNeg (m0.2 13 (st k))) (st k) (nI day) = upd (upd (m.2 13) (m.1 4).toNatClampNeg (m0.2 13 (st k))) (st k) (nI day)
              rw [t1, t5]
            · obtain ⟨v1, v2, v3, v4, v5, v6, v7, v8⟩ := s7 j hj
              refine ⟨v1, v2, v3, v4, v5, v6, ?_⟩
              show (upd (m.2 12) (m.1 4).toNatClampNeg (nI day) j).toInt < (upd (upd (m.2 13) (m.1 4).toNatClampNeg (m0.2 13 (st k))) (st k) (nI day) j).toInt ∧ (upd (upd (m.2 13) (m.1 4).toNatClampNeg (m0.2 13 (st k))) (st k) (nI day) j).toInt ≤ 400
              by_cases e : j = st k
              · rw [e, pk_us, pk_un hne, hdi, q12]
                omega
              · rw [pk_un e]
                exact ⟨v7, v8⟩
          · rw [hxa, hma]
            show upd (x.2 0) g (nI (st k)) = upd (m.2 17) g (nI (st k))
            rw [C4]
          · rw [hxa, hma]
            show upd (x.2 1) g (m0.2 16 k) = upd (m.2 18) g (m0.2 16 k)
            rw [C5]
          · rw [hxa, hma]
            show upd (x.2 2) g (x.1 5) = upd (upd (m.2 19) g (nI (st k))) g (m.1 4)
            rw [C6, t1, upd_upd]
          · rw [hma]
            show (m.1 4 + 1).toInt = _
            rw [add1 (by omega), hms]
            omega
          · intro j hj
            obtain ⟨-, -, j3, -⟩ := hk j hj
            rw [hma]
            show upd (m.2 12) (m.1 4).toNatClampNeg (nI day) (st j) = m0.2 12 (st j)
            rw [pk_un (by omega)]
            exact C11 j hj
          · intro j h1 h2
            have hlt := hst k j (by omega) h2
            obtain ⟨-, -, j3, -⟩ := hk j h2
            rw [hma]
            show upd (m.2 11) (m.1 4).toNatClampNeg (m0.2 16 k) (st j) = m0.2 11 (st j) ∧ upd (upd (m.2 13) (m.1 4).toNatClampNeg (m0.2 13 (st k))) (st k) (nI day) (st j) = m0.2 13 (st j)
            rw [pk_un (by omega), pk_un (by omega), pk_un (by omega)]
            exact C12 j (by omega) h2) (by
      rintro ⟨z1, x⟩ ⟨z2, m⟩ ⟨g1, g2, C1, C2, C3, C4, C5, C6, ⟨g, C7, C8, C9⟩, C10, C11, C12⟩
      have g1 : z1 = nI n := g1
      have g2 : z2 = nI n := g2
      have x6 : x.1 6 = nI n := (C1.1 6 (by omega) (by omega)).trans h6
      have m5 : m.1 5 = nI n := (C2.1 5 (by omega) (by omega)).trans h5
      have C8 : x.1 0 = nI g := C8
      have C9 : m.1 11 = nI g := C9
      refine ⟨x, (m.1 11, m), ?_, ?_, g, C9, C8, C1, C2, C3, ⟨C8.trans C9.symm, C4, C5, C6, ?_⟩⟩
      · show Hb_carryOut_l7 (nI day) z1 x = _
        unfold Hb_carryOut_l7
        rw [x6, g1, if_pos (Int32.le_refl _)]
        rfl
      · show Md_moveAll_l7 (nI day) z2 m = _
        unfold Md_moveAll_l7
        rw [m5, g2, if_pos (Int32.le_refl _)]
        rfl
      · show cnt (m.1 11) 12
        rw [C9]
        unfold cnt
        rw [nI_toInt (by omega)]
        omega)
  obtain ⟨r, q, h1, h2, g, k1, k2, k3, k4, k5, k6⟩ := main n 0 ((0 : Int32), pf x0 0 0) ((0 : Int32), pf m0 11 0) (by omega) ⟨nI_0.symm, nI_0.symm, fcx_pf ⟨fun _ _ _ => rfl, fun _ _ => rfl⟩ (Or.inl rfl), fcm_pf ⟨fun _ _ _ => rfl, fun _ _ => rfl⟩ (Or.inr rfl), hT, hK0, hK1, hK2, ⟨0, by omega, nI_0.symm, nI_0.symm⟩, by show (m0.1 4).toInt = (m0.1 4).toInt + ((0 : Nat) : Int); omega, fun _ _ => rfl, fun _ _ _ => ⟨rfl, rfl⟩⟩
  exact ⟨r, q.2, g, h1, by rw [h2, ← k1], k2, k3, k4, k5, k6⟩
