-- ===== the walk: two searches side by side =====
def FXd (x y : MS) : Prop := (∀ j, j ≠ 8 → j ≠ 9 → y.1 j = x.1 j) ∧ (∀ j, j ≠ 19 → j ≠ 23 → j ≠ 26 → y.2 j = x.2 j)
def FMd (m y : MS) : Prop := (∀ j, j ≠ 6 → j ≠ 7 → y.1 j = m.1 j) ∧ (∀ j, j ≠ 15 → j ≠ 16 → y.2 j = m.2 j)
theorem fxd_pf {x y : MS} (h : FXd x y) {i : Nat} {v : Int32} (hi : i = 8 ∨ i = 9) : FXd x (pf y i v) := ⟨fun j h1 h2 => by
  show (if j = i then v else y.1 j) = x.1 j
  rw [if_neg (by omega)]; exact h.1 j h1 h2, h.2⟩
theorem fxd_pr {x y : MS} (h : FXd x y) {i : Nat} {f : Nat → Int32} (hi : i = 19 ∨ i = 23 ∨ i = 26) : FXd x (pr y i f) := ⟨h.1, fun j h1 h2 h3 => by
  show (if j = i then f else y.2 j) = x.2 j
  rw [if_neg (by omega)]; exact h.2 j h1 h2 h3⟩
theorem fxd_pa {x y : MS} (h : FXd x y) {i k : Nat} {v : Int32} (hi : i = 19 ∨ i = 23 ∨ i = 26) : FXd x (pa y i k v) := fxd_pr h hi
theorem fmd_pf {x y : MS} (h : FMd x y) {i : Nat} {v : Int32} (hi : i = 6 ∨ i = 7) : FMd x (pf y i v) := ⟨fun j h1 h2 => by
  show (if j = i then v else y.1 j) = x.1 j
  rw [if_neg (by omega)]; exact h.1 j h1 h2, h.2⟩
theorem fmd_pr {x y : MS} (h : FMd x y) {i : Nat} {f : Nat → Int32} (hi : i = 15 ∨ i = 16) : FMd x (pr y i f) := ⟨h.1, fun j h1 h2 => by
  show (if j = i then f else y.2 j) = x.2 j
  rw [if_neg (by omega)]; exact h.2 j h1 h2⟩
theorem fmd_pa {x y : MS} (h : FMd x y) {i k : Nat} {v : Int32} (hi : i = 15 ∨ i = 16) : FMd x (pa y i k v) := fmd_pr h hi
/-- how many of the first k are put elsewhere -/
def mvn (c own : Nat → Nat) (k : Nat) : Nat := fb_ct (fun j => !decide (c j = own j)) k
theorem mvn_up {c own : Nat → Nat} {k b : Nat} : mvn (upN c k b) own (k + 1) = mvn c own k + (if b = own k then 0 else 1) := by
  unfold mvn
  rw [fb_ct_succ, upN_s, fb_ct_cong (q := fun j => !decide (c j = own j)) (fun j hj => by
    show (!decide (upN c k b j = own j)) = _
    rw [upN_n (by omega)])]
  by_cases e : b = own k
  · rw [if_pos e, decide_eq_true e]; rfl
  · rw [if_neg e, decide_eq_false e]; rfl
theorem mvn_le (c own : Nat → Nat) (k : Nat) : mvn c own k ≤ k := fb_ct_le _ k
def WKx (x : MS) (n B : Nat) (own : Nat → Nat) (al sh : Nat → Nat → Prop) : Prop := x.1 6 = nI n ∧ x.1 7 = nI B ∧ (∀ k, k < n → x.2 20 k = nI (own k)) ∧ (∀ k, k < n → ∀ b, b < B → (bt (x.2 24 k) b = true ↔ al k b)) ∧ (∀ k, k < n → ∀ j, j < k → (bt (x.2 25 k) j = true ↔ sh j k))
def WKm (m : MS) (n B : Nat) (own : Nat → Nat) (al sh : Nat → Nat → Prop) : Prop := m.1 5 = nI n ∧ m.1 1 = nI B ∧ (∀ k, k < n → 0 ≤ (m.2 14 k).toInt ∧ (m.2 14 k).toInt < 40 ∧ m.2 11 (m.2 14 k).toNatClampNeg = nI (own k)) ∧
  ∀ (w : MS) (c : Nat → Nat) (k b : Nat), FMd m w → k < n → b < B → (∀ j, j < k → w.2 15 j = nI (c j) ∧ c j < B) → Says (f_Md_isTry (nI k) (nI b) w) (al k b ∧ ∀ j, j < k → c j = b → ¬ sh j k)
def WD (n B k : Nat) (c : Nat → Nat) (t f : Nat) (x m : MS) : Prop := x.1 9 = nI t ∧ t ≤ 50000 ∧ m.1 7 = nI t ∧ x.1 8 = nI f ∧ f ≤ 13 ∧ m.1 6 = (if f = 13 then -1 else nI f) ∧ (f ≠ 13 → ∀ j, j < n → x.2 19 j = m.2 16 j ∧ ∃ b, b < B ∧ m.2 16 j = nI b) ∧ (∀ j, j < k → x.2 23 j = nI (c j) ∧ m.2 15 j = nI (c j) ∧ c j < B) ∧ (∀ b, b < 10 → ∀ i, i < 32 → bt (x.2 26 b) i = decide (i < k ∧ c i = b))
noncomputable def WL (z : Int32 × MS) : Option (Int32 × MS) := loop (fun z => Md_walk_l32 z.1 z.2) z
theorem WL_eq (i : Int32) (s : MS) : WL (i, s) = (Md_walk_l32 i s).bind (Sum.elim WL some) := by
  show loop (fun z => Md_walk_l32 z.1 z.2) (i, s) = _
  rw [loop_eq]
  rfl
theorem pI_lt {k j : Nat} (hk : k < 2 ^ 30) (hj : j < 2 ^ 30) : pI k < nI j ↔ k ≤ j := by
  cases k with
  | zero =>
    refine ⟨fun _ => Nat.zero_le j, fun _ => ?_⟩
    show (-1 : Int32) < nI j
    rw [fa_lt, nI_toInt (by omega)]
    show (-1 : Int) < (j : Int)
    omega
  | succ k =>
    show nI k < nI j ↔ _
    rw [nI_ltI (by omega) (by omega)]
    omega
theorem pI_1 {b : Nat} (hb : b < 2 ^ 30) : pI b + 1 = nI b := by
  cases b with
  | zero => rw [nI_0]; rfl
  | succ b => exact nI_1 b
theorem mto_eq {m w : MS} {n B : Nat} {own : Nat → Nat} {al sh : Nat → Nat → Prop} (hM : WKm m n B own al sh) (hn : n ≤ 12) (hB : B ≤ 10) (hown : ∀ k, k < n → own k < 10) (hw : FMd m w) {c : Nat → Nat} {k : Nat} (hk : k ≤ n) (hc : ∀ j, j < k → w.2 15 j = nI (c j) ∧ c j < B) : f_Md_movesTo (pI k) w = some (nI (mvn c own k)) := by
  obtain ⟨m1, m2, m3, m4⟩ := hM
  have w14 : w.2 14 = m.2 14 := hw.2 14 (by omega) (by omega)
  have w11 : w.2 11 = m.2 11 := hw.2 11 (by omega) (by omega)
  unfold f_Md_movesTo
  have h0 : (((0 : Int32), (0 : Int32)) : Int32 × Int32) = (fun j : Nat => ((nI (mvn c own j), nI j) : Int32 × Int32)) 0 := by
    show _ = (nI 0, nI 0)
    rw [nI_0]
  rw [h0]
  refine loop_up (fun j : Nat => ((nI (mvn c own j), nI j) : Int32 × Int32)) k _ (fun j hj => ?_) ?_
  · show Md_movesTo_l4 (pI k) w (nI (mvn c own j)) (nI j) = some (.inl (nI (mvn c own (j + 1)), nI (j + 1)))
    obtain ⟨p1, p2, p3⟩ := m3 j (by omega)
    obtain ⟨q1, q2⟩ := hc j hj
    have ho := hown j (by omega)
    have n1 : ¬ pI k < nI j := fun q => by
      have := (pI_lt (by omega) (by omega)).mp q
      omega
    have e0 : nI (mvn c own j) + 0 = nI (mvn c own j) := Int32.add_zero _
    unfold Md_movesTo_l4
    rw [if_neg n1]
    simp only [chk_t (ib_nI (show j < 12 by omega) (by omega)), bnd_eq, nI_clamp (show j < 2 ^ 31 by omega), nI_1, e0]
    rw [w14, w11, chk_t (inb_iff.mpr ⟨p1, p2⟩), p3, q1]
    have hs : mvn c own (j + 1) = mvn c own j + (if c j = own j then 0 else 1) := by
      unfold mvn
      rw [fb_ct_succ]
      by_cases e : c j = own j
      · rw [if_pos e, decide_eq_true e]; rfl
      · rw [if_neg e, decide_eq_false e]; rfl
    by_cases e : c j = own j
    · rw [if_pos (by rw [e] : nI (c j) = nI (own j)), hs, if_pos e]; rfl
    · rw [if_neg (fun q => e ((nI_eq (by omega) (by omega)).mp q)), hs, if_neg e]
  · show Md_movesTo_l4 (pI k) w (nI (mvn c own k)) (nI k) = _
    unfold Md_movesTo_l4
    rw [if_pos ((pI_lt (by omega) (by omega)).mpr (Nat.le_refl k))]
    rfl
theorem keep_eq {m w : MS} {n B : Nat} {own : Nat → Nat} {al sh : Nat → Nat → Prop} (hM : WKm m n B own al sh) (hn : n ≤ 12) (hB : B ≤ 10) (hown : ∀ k, k < n → own k < 10) (hw : FMd m w) {c : Nat → Nat} (hc : ∀ j, j < n → w.2 15 j = nI (c j) ∧ c j < B) : f_Md_keep w = some (pr (pf w 6 (nI (mvn c own n))) 16 (va_cpy (w.2 15) (w.2 16) 0 0 n)) := by
  have w5 : w.1 5 = nI n := (hw.1 5 (by omega) (by omega)).trans hM.1
  unfold f_Md_keep
  rw [w5, pI_sub, mto_eq hM hn hB hown hw (Nat.le_refl n) hc, Option.bind_some, bnd_eq]
  obtain ⟨u, hu⟩ : ∃ u, u = pf w 6 (nI (mvn c own n)) := ⟨_, rfl⟩
  have u15 : w.2 15 = u.2 15 := by rw [hu]; rfl
  have u16 : w.2 16 = u.2 16 := by rw [hu]; rfl
  have u5 : u.1 5 = nI n := by rw [hu]; exact w5
  rw [← hu, u15, u16]
  have h0 : (((0 : Int32), u) : Int32 × MS) = (fun k : Nat => ((nI k, pr u 16 (va_cpy (u.2 15) (u.2 16) 0 0 k)) : Int32 × MS)) 0 := by
    refine Prod.ext nI_0.symm ?_
    show u = pr u 16 (va_cpy (u.2 15) (u.2 16) 0 0 0)
    have : va_cpy (u.2 15) (u.2 16) 0 0 0 = u.2 16 := funext fun k => if_neg (by omega)
    rw [this, pr_self]
  rw [h0]
  refine loop_up (f := fun z => Md_keep_l16 z.1 z.2) (fun k : Nat => ((nI k, pr u 16 (va_cpy (u.2 15) (u.2 16) 0 0 k)) : Int32 × MS)) n _ (fun k hk => ?_) ?_
  · show Md_keep_l16 (nI k) (pr u 16 (va_cpy (u.2 15) (u.2 16) 0 0 k)) = some (.inl (nI (k + 1), pr u 16 (va_cpy (u.2 15) (u.2 16) 0 0 (k + 1))))
    have e1 : (pr u 16 (va_cpy (u.2 15) (u.2 16) 0 0 k)).1 5 = nI n := u5
    have e2 : (pr u 16 (va_cpy (u.2 15) (u.2 16) 0 0 k)).2 15 = u.2 15 := rfl
    have e3 : upd (va_cpy (u.2 15) (u.2 16) 0 0 k) k (u.2 15 k) = va_cpy (u.2 15) (u.2 16) 0 0 (k + 1) := funext fun j => by
      show (if j = k then u.2 15 k else if 0 ≤ j ∧ j < 0 + k then u.2 15 (0 + (j - 0)) else u.2 16 j) = if 0 ≤ j ∧ j < 0 + (k + 1) then u.2 15 (0 + (j - 0)) else u.2 16 j
      by_cases q : j = k
      · rw [if_pos q, if_pos (by omega), q, Nat.zero_add, Nat.sub_zero]
      · by_cases q2 : j < k
        · rw [if_neg q, if_pos (by omega), if_pos (by omega)]
        · rw [if_neg q, if_neg (by omega), if_neg (by omega)]
    unfold Md_keep_l16
    rw [e1, if_neg (nI_ge hk (by omega)), chk_t (ib_nI (by omega) (by omega)), bnd_eq, chk_t (ib_nI (by omega) (by omega)), bnd_eq, bnd_eq, nI_clamp (n := k) (by omega), nI_1, e2, pa_pr, e3]
  · show Md_keep_l16 (nI n) (pr u 16 (va_cpy (u.2 15) (u.2 16) 0 0 n)) = _
    have e1 : (pr u 16 (va_cpy (u.2 15) (u.2 16) 0 0 n)).1 5 = nI n := u5
    unfold Md_keep_l16
    rw [e1, if_pos (Int32.le_refl _)]
    rfl
/-- what is owed of a deeper level -/
def CH (x0 m0 : MS) (n B : Nat) (own : Nat → Nat) (rc : Int32 → Int32 → MS → Option MS) (k : Nat) : Prop :=
  ∀ (c : Nat → Nat) (t f : Nat) (y s : MS), FXd x0 y → FMd m0 s → WD n B (k + 1) c t f y s → mvn c own (k + 1) < f →
    ∃ y', rc (nI (k + 1)) (nI (mvn c own (k + 1))) y = some y' ∧ FXd x0 y' ∧ ((y'.1 9 = nI 50001 ∧ ∃ m', (Md_walk_j125 (nI k) s).bind (Sum.elim WL some) = some (0, m') ∧ FMd m0 m') ∨ ∃ (t' f' : Nat) (m' : MS), (Md_walk_j125 (nI k) s).bind (Sum.elim WL some) = WL (nI k, m') ∧ FMd m0 m' ∧ WD n B (k + 1) c t' f' y' m')
theorem spent_exit {rc : Int32 → Int32 → MS → Option MS} {a1 a2 b : Int32} {x : MS} (h : x.1 9 = nI 50001) : loop (fun z => Walk_putFrom_l33 rc a1 a2 z.1 z.2) (b, x) = some x := by
  refine loop_inr ?_
  show Walk_putFrom_l33 rc a1 a2 b x = _
  unfold Walk_putFrom_l33 f_Walk_isSpent
  by_cases c : x.1 7 ≤ b
  · rw [if_pos c]; rfl
  · rw [if_neg c, h, if_neg (by decide : ¬ nI 50001 ≤ (50000 : Int32)), Option.bind_some, if10]
    rfl
theorem nsp {t : Nat} (h : t ≤ 50000) : nI t ≤ (50000 : Int32) := by
  rw [fa_le, nI_toInt (by omega)]
  show (t : Int) ≤ 50000
  omega
theorem w_bits {k b : Nat} {c : Nat → Nat} {i : Nat} : decide (i < k + 1 ∧ upN c k b i = b) = (decide (i < k ∧ c i = b) || decide (i = k)) := by
  by_cases e : i = k
  · rw [decide_eq_true e, Bool.or_true, e, upN_s, decide_eq_true ⟨by omega, rfl⟩]
  · rw [upN_n e, decide_eq_false e, Bool.or_false]
    by_cases q : i < k ∧ c i = b
    · rw [decide_eq_true q, decide_eq_true ⟨by omega, q.2⟩]
    · rw [decide_eq_false q, decide_eq_false (fun z => q ⟨by omega, z.2⟩)]
theorem w_bits2 {k b b2 : Nat} {c : Nat → Nat} {i : Nat} (h : b2 ≠ b) : decide (i < k + 1 ∧ upN c k b i = b2) = decide (i < k ∧ c i = b2) := by
  by_cases e : i = k
  · rw [e, upN_s, decide_eq_false (fun z => h z.2.symm), decide_eq_false (fun z => by omega)]
  · rw [upN_n e]
    by_cases q : i < k ∧ c i = b2
    · rw [decide_eq_true q, decide_eq_true ⟨by omega, q.2⟩]
    · rw [decide_eq_false q, decide_eq_false (fun z => q ⟨by omega, z.2⟩)]
