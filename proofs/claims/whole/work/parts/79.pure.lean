-- ===== spans: one ends early =====
theorem least {P : Nat → Prop} : ∀ n, P n → ∃ k, k ≤ n ∧ P k ∧ ∀ j, j < k → ¬ P j := by
  intro n
  induction n using Nat.strongRecOn with
  | _ n ih =>
    intro h
    by_cases c : ∃ j, j < n ∧ P j
    · obtain ⟨j, j1, j2⟩ := c
      obtain ⟨k, k1, k2, k3⟩ := ih j j1 j2
      exact ⟨k, by omega, k2, k3⟩
    · exact ⟨n, Nat.le_refl n, h, fun j hj q => c ⟨j, hj, q⟩⟩
def sf (r : Nat → Int32) (a k : Nat) : Nat → Int32 := fun j => if a ≤ j ∧ j < k then r (j + 1) else r j
theorem sf_0 (r : Nat → Int32) (a : Nat) : sf r a a = r := funext fun j => if_neg (by omega)
theorem sf_s (r : Nat → Int32) {a k : Nat} (h : a ≤ k) : upd (sf r a k) k (r (k + 1)) = sf r a (k + 1) := funext fun j => by
  show (if j = k then r (k + 1) else if a ≤ j ∧ j < k then r (j + 1) else r j) = if a ≤ j ∧ j < k + 1 then r (j + 1) else r j
  by_cases e : j = k
  · rw [if_pos e, if_pos (by omega), e]
  · by_cases e2 : a ≤ j ∧ j < k
    · rw [if_neg e, if_pos e2, if_pos (by omega)]
    · rw [if_neg e, if_neg e2, if_neg (by omega)]
theorem sf_n (r : Nat → Int32) {a k : Nat} : sf r a k (k + 1) = r (k + 1) := if_neg (by omega)
def t3 (s : MS) (A B C : Nat → Int32) : MS := (s.1, fun j => if j = 7 then A else if j = 8 then B else if j = 9 then C else s.2 j)
theorem t3_7 (s : MS) (A B C : Nat → Int32) (k : Nat) (v : Int32) : pa (t3 s A B C) 7 k v = t3 s (upd A k v) B C := Prod.ext rfl (funext fun j => by
  show (if j = 7 then upd A k v else if j = 7 then A else if j = 8 then B else if j = 9 then C else s.2 j) = if j = 7 then upd A k v else if j = 8 then B else if j = 9 then C else s.2 j
  by_cases e : j = 7
  · rw [if_pos e, if_pos e]
  · rw [if_neg e, if_neg e, if_neg e])
theorem t3_8 (s : MS) (A B C : Nat → Int32) (k : Nat) (v : Int32) : pa (t3 s A B C) 8 k v = t3 s A (upd B k v) C := Prod.ext rfl (funext fun j => by
  show (if j = 8 then upd B k v else if j = 7 then A else if j = 8 then B else if j = 9 then C else s.2 j) = if j = 7 then A else if j = 8 then upd B k v else if j = 9 then C else s.2 j
  by_cases e : j = 8
  · rw [if_pos e, if_neg (by omega), if_pos e]
  · rw [if_neg e]
    by_cases e2 : j = 7
    · rw [if_pos e2, if_pos e2]
    · rw [if_neg e2, if_neg e2, if_neg e, if_neg e])
theorem t3_9 (s : MS) (A B C : Nat → Int32) (k : Nat) (v : Int32) : pa (t3 s A B C) 9 k v = t3 s A B (upd C k v) := Prod.ext rfl (funext fun j => by
  show (if j = 9 then upd C k v else if j = 7 then A else if j = 8 then B else if j = 9 then C else s.2 j) = if j = 7 then A else if j = 8 then B else if j = 9 then upd C k v else s.2 j
  by_cases e : j = 9
  · rw [if_pos e, if_neg (by omega), if_neg (by omega), if_pos e]
  · rw [if_neg e]
    by_cases e2 : j = 7
    · rw [if_pos e2, if_pos e2]
    · rw [if_neg e2, if_neg e2]
      by_cases e3 : j = 8
      · rw [if_pos e3, if_pos e3]
      · rw [if_neg e3, if_neg e3, if_neg e, if_neg e])
theorem t3_self (s : MS) : t3 s (s.2 7) (s.2 8) (s.2 9) = s := Prod.ext rfl (funext fun j => by
  show (if j = 7 then s.2 7 else if j = 8 then s.2 8 else if j = 9 then s.2 9 else s.2 j) = s.2 j
  by_cases e : j = 7
  · rw [if_pos e, e]
  · by_cases e2 : j = 8
    · rw [if_neg e, if_pos e2, e2]
    · by_cases e3 : j = 9
      · rw [if_neg e, if_neg e2, if_pos e3, e3]
      · rw [if_neg e, if_neg e2, if_neg e3])
theorem endSpan_eq {m : MS} {n jr day : Nat} (h3 : m.1 3 = nI (n + 1)) (hn : n < 60) (hj : jr ≤ n) (hd : day < 400) (hf : (m.2 8 jr).toInt ≤ (day : Int)) :
    ∃ z, f_Md_endSpan (nI jr) (nI day) m = some z ∧ (((m.2 8 jr).toInt < (day : Int) ∧ z = pa m 9 jr (nI day)) ∨ ((m.2 8 jr).toInt = (day : Int) ∧ z = pf (t3 m (sf (m.2 7) jr n) (sf (m.2 8) jr n) (sf (upd (m.2 9) jr (nI day)) jr n)) 3 (nI n))) := by
  have hdi : (nI day).toInt = (day : Int) := nI_toInt (by omega)
  have h60 : inb (nI jr) 60 = true := ib_nI (by omega) (by omega)
  unfold f_Md_endSpan
  rw [chk_t h60, bnd_eq, chk_t h60, bnd_eq, nI_clamp (n := jr) (by omega)]
  have e8 : (pa m 9 jr (nI day)).2 8 jr = m.2 8 jr := rfl
  rw [e8]
  by_cases c : nI day ≤ m.2 8 jr
  · rw [if_pos c]
    rw [fa_le, hdi] at c
    refine ⟨_, ?_, Or.inr ⟨by omega, rfl⟩⟩
    obtain ⟨A, hA⟩ : ∃ A, A = m.2 7 := ⟨_, rfl⟩
    obtain ⟨B, hB⟩ : ∃ B, B = m.2 8 := ⟨_, rfl⟩
    obtain ⟨C, hC⟩ : ∃ C, C = upd (m.2 9) jr (nI day) := ⟨_, rfl⟩
    have h0 : pa m 9 jr (nI day) = t3 m A B C := by
      conv => lhs; rw [← t3_self m]
      rw [t3_9, hA, hB, hC]
    rw [h0, ← hA, ← hB, ← hC]
    have h1 : ((nI jr, t3 m A B C) : Int32 × MS) = (fun k : Nat => ((nI (jr + k), t3 m (sf A jr (jr + k)) (sf B jr (jr + k)) (sf C jr (jr + k))) : Int32 × MS)) 0 := by
      show _ = (nI jr, t3 m (sf A jr jr) (sf B jr jr) (sf C jr jr))
      rw [sf_0, sf_0, sf_0]
    rw [h1]
    refine loop_up (f := fun z => Md_endSpan_l20 z.1 z.2) (fun k : Nat => ((nI (jr + k), t3 m (sf A jr (jr + k)) (sf B jr (jr + k)) (sf C jr (jr + k))) : Int32 × MS)) (n - jr) _ (fun k hk => ?_) ?_
    · show Md_endSpan_l20 (nI (jr + k)) (t3 m (sf A jr (jr + k)) (sf B jr (jr + k)) (sf C jr (jr + k))) = some (.inl (nI (jr + k + 1), t3 m (sf A jr (jr + k + 1)) (sf B jr (jr + k + 1)) (sf C jr (jr + k + 1))))
      have e3 : (t3 m (sf A jr (jr + k)) (sf B jr (jr + k)) (sf C jr (jr + k))).1 3 = nI (n + 1) := h3
      have e7 : (t3 m (sf A jr (jr + k)) (sf B jr (jr + k)) (sf C jr (jr + k))).2 7 (jr + k + 1) = A (jr + k + 1) := sf_n A
      have e8 : (t3 m (sf A jr (jr + k + 1)) (sf B jr (jr + k)) (sf C jr (jr + k))).2 8 (jr + k + 1) = B (jr + k + 1) := sf_n B
      have e9 : (t3 m (sf A jr (jr + k + 1)) (sf B jr (jr + k + 1)) (sf C jr (jr + k))).2 9 (jr + k + 1) = C (jr + k + 1) := sf_n C
      unfold Md_endSpan_l20
      rw [e3, nI_pred, if_neg (nI_ge (by omega) (by omega)), nI_1]
      simp only [chk_t (ib_nI (show jr + k + 1 < 60 by omega) (by omega)), chk_t (ib_nI (show jr + k < 60 by omega) (by omega)), bnd_eq, nI_clamp (show jr + k + 1 < 2 ^ 31 by omega), nI_clamp (show jr + k < 2 ^ 31 by omega)]
      rw [e7, t3_7, sf_s A (by omega), e8, t3_8, sf_s B (by omega), e9, t3_9, sf_s C (by omega)]
    · show Md_endSpan_l20 (nI (jr + (n - jr))) (t3 m (sf A jr (jr + (n - jr))) (sf B jr (jr + (n - jr))) (sf C jr (jr + (n - jr)))) = _
      rw [show jr + (n - jr) = n by omega]
      have e3 : (t3 m (sf A jr n) (sf B jr n) (sf C jr n)).1 3 = nI (n + 1) := h3
      unfold Md_endSpan_l20
      rw [e3, nI_pred, if_pos (Int32.le_refl _)]
      rfl
  · rw [if_neg c]
    rw [fa_le, hdi] at c
    exact ⟨_, rfl, Or.inl ⟨by omega, rfl⟩⟩
theorem remove_eq {s : MS} {n kx : Nat} (h4 : s.1 4 = nI (n + 1)) (hn : n < 60) (hk : kx ≤ n) : f_Spans_remove (nI kx) s = some (pa (pa (pa (pf s 4 (nI n)) 11 kx (s.2 11 n)) 12 kx (s.2 12 n)) 13 kx (s.2 13 n)) := by
  have h60 : inb (nI kx) 60 = true := ib_nI (by omega) (by omega)
  have hn60 : inb (nI n) 60 = true := ib_nI (by omega) (by omega)
  unfold f_Spans_remove
  rw [if_neg (nI_pos (by omega)), h4, if_pos (nI_lt (by omega) (by omega)), bnd_eq, nI_pred]
  simp only [pa_f, pf_at, chk_t h60, chk_t hn60, bnd_eq, nI_clamp (show n < 2 ^ 31 by omega), nI_clamp (show kx < 2 ^ 31 by omega)]
  rfl
/-- the two sides' span of that boat and day is the same one -/
theorem same_span {x m : MS} (hS : JS x m) : ∃ f : Nat → Nat, ((∀ k : Nat, (k : Int) < (m.1 3).toInt → (f k : Int) < (m.1 3).toInt ∧ x.2 11 k = m.2 7 (f k) ∧ x.2 12 k = m.2 8 (f k) ∧ x.2 13 k = m.2 9 (f k)) ∧ ∀ i j : Nat, i < j → (j : Int) < (m.1 3).toInt → f i ≠ f j) ∧ ∀ kx jr d : Nat, (kx : Int) < (m.1 3).toInt → (jr : Int) < (m.1 3).toInt → m.2 7 jr = x.2 11 kx → (m.2 8 jr).toInt ≤ (d : Int) → (d : Int) < (m.2 9 jr).toInt → (x.2 12 kx).toInt ≤ (d : Int) → (d : Int) < (x.2 13 kx).toInt → f kx = jr := by
  obtain ⟨s1, s2, ⟨f, hf, hfi⟩, s4, s5⟩ := hS
  refine ⟨f, ⟨hf, hfi⟩, fun kx jr d h1 h2 h3 h4 h5 h6 h7 => ?_⟩
  obtain ⟨g1, g2, g3, g4⟩ := hf kx h1
  refine Classical.byContradiction fun q => ?_
  have := s5 (f kx) jr g1 h2 q (by rw [← g2, h3])
  rw [g3] at h6
  rw [g4] at h7
  omega
theorem js_cut {x m y z : MS} (hS : JS x m) {kx jr day : Nat} (hkx : (kx : Int) < (m.1 3).toInt) (hjr : (jr : Int) < (m.1 3).toInt) (hb : m.2 7 jr = x.2 11 kx) (h1 : (m.2 8 jr).toInt < (day : Int)) (h2 : (day : Int) < (m.2 9 jr).toInt) (h3 : (x.2 12 kx).toInt ≤ (day : Int)) (h4 : (day : Int) < (x.2 13 kx).toInt)
    (y4 : y.1 4 = x.1 4) (y11 : y.2 11 = x.2 11) (y12 : y.2 12 = x.2 12) (y13 : y.2 13 = upd (x.2 13) kx (nI day)) (z3 : z.1 3 = m.1 3) (z2 : z.1 2 = m.1 2) (z6 : z.2 6 = m.2 6) (z7 : z.2 7 = m.2 7) (z8 : z.2 8 = m.2 8) (z9 : z.2 9 = upd (m.2 9) jr (nI day)) : JS y z := by
  obtain ⟨f, ⟨hf, hfi⟩, hsame⟩ := same_span hS
  have hk := hsame kx jr day hkx hjr hb (by omega) h2 h3 h4
  obtain ⟨s1, s2, -, s4, s5⟩ := hS
  have hr := s4 jr hjr
  have hdi : (nI day).toInt = (day : Int) := nI_toInt (by omega)
  have hz9 : ∀ k, (upd (m.2 9) jr (nI day) k).toInt ≤ (m.2 9 k).toInt := fun k => by
    by_cases e : k = jr
    · rw [e, pk_us]; omega
    · rw [pk_un e]; exact Int.le_refl _
  unfold JS
  rw [y4, y11, y12, y13, z3, z2, z6, z7, z8, z9]
  refine ⟨s1, s2, ⟨f, fun k hkn => ?_, hfi⟩, fun k hkn => ?_, fun i j hi hj hij hbb => ?_⟩
  · obtain ⟨g1, g2, g3, g4⟩ := hf k hkn
    refine ⟨g1, g2, g3, ?_⟩
    by_cases e : k = kx
    · rw [e, hk, pk_us, pk_us]
    · have ne : f k ≠ jr := fun q => by
        rw [← hk] at q
        rcases Nat.lt_or_gt_of_ne e with w | w
        · exact hfi k kx w hkx q
        · exact hfi kx k w hkn q.symm
      rw [pk_un e, pk_un ne]
      exact g4
  · obtain ⟨a1, a2, a3, a4, a5, a6⟩ := s4 k hkn
    refine ⟨a1, a2, a3, a4, ?_⟩
    by_cases e : k = jr
    · rw [e, pk_us, hdi]; omega
    · rw [pk_un e]; exact ⟨a5, a6⟩
  · have q1 := hz9 i
    have q2 := hz9 j
    have := s5 i j hi hj hij hbb
    omega
theorem js_rem {x m y z : MS} (hS : JS x m) {n kx jr day : Nat} (hn : m.1 3 = nI (n + 1)) (hn6 : n < 60) (hkx : kx ≤ n) (hjr : jr ≤ n) (hb : m.2 7 jr = x.2 11 kx) (h1 : (m.2 8 jr).toInt ≤ (day : Int)) (h2 : (day : Int) < (m.2 9 jr).toInt) (h3 : (x.2 12 kx).toInt ≤ (day : Int)) (h4 : (day : Int) < (x.2 13 kx).toInt)
    (y4 : y.1 4 = nI n) (hy : ∀ k, k < n → y.2 11 k = x.2 11 (if k = kx then n else k) ∧ y.2 12 k = x.2 12 (if k = kx then n else k) ∧ y.2 13 k = x.2 13 (if k = kx then n else k))
    (z3 : z.1 3 = nI n) (z2 : z.1 2 = m.1 2) (z6 : z.2 6 = m.2 6) (hz : ∀ j, j < n → z.2 7 j = m.2 7 (if j < jr then j else j + 1) ∧ z.2 8 j = m.2 8 (if j < jr then j else j + 1) ∧ z.2 9 j = m.2 9 (if j < jr then j else j + 1)) : JS y z := by
  obtain ⟨f, ⟨hf, hfi⟩, hsame⟩ := same_span hS
  have hni : (m.1 3).toInt = ((n + 1 : Nat) : Int) := by rw [hn, nI_toInt (by omega)]
  have hk := hsame kx jr day (by omega) (by omega) hb h1 h2 h3 h4
  obtain ⟨s1, s2, -, s4, s5⟩ := hS
  have hnn : (nI n).toInt = (n : Int) := nI_toInt (by omega)
  have hgr : ∀ k, k < n → (if k = kx then n else k) < n + 1 ∧ (if k = kx then n else k) ≠ kx := fun k hkn => by
    by_cases e : k = kx
    · rw [if_pos e]; omega
    · rw [if_neg e]; omega
  have hfg : ∀ k, k < n → f (if k = kx then n else k) < n + 1 ∧ f (if k = kx then n else k) ≠ jr := fun k hkn => by
    obtain ⟨q1, q2⟩ := hgr k hkn
    have := (hf (if k = kx then n else k) (by omega)).1
    refine ⟨by omega, fun q => ?_⟩
    rw [← hk] at q
    rcases Nat.lt_or_gt_of_ne q2 with w | w
    · exact hfi _ _ w (by omega) q
    · exact hfi _ _ w (by omega) q.symm
  have hsh : ∀ v, v < n + 1 → v ≠ jr → (if v < jr then v else v - 1) < n ∧ (if (if v < jr then v else v - 1) < jr then (if v < jr then v else v - 1) else (if v < jr then v else v - 1) + 1) = v := fun v hv hne => by
    by_cases e : v < jr
    · rw [if_pos e, if_pos e]; omega
    · rw [if_neg e, if_neg (by omega)]; omega
  have hup : ∀ j, j < n → (if j < jr then j else j + 1) < n + 1 := fun j hj => by
    by_cases e : j < jr
    · rw [if_pos e]; omega
    · rw [if_neg e]; omega
  unfold JS
  rw [y4, z3, z2, z6, hnn]
  refine ⟨rfl, ⟨by omega, by omega⟩, ⟨fun k => if f (if k = kx then n else k) < jr then f (if k = kx then n else k) else f (if k = kx then n else k) - 1, fun k hkn => ?_, fun i j hij hj => ?_⟩, fun k hkn => ?_, fun i j hi hj hij hbb => ?_⟩
  · have hkn : k < n := by omega
    obtain ⟨q1, q2⟩ := hfg k hkn
    obtain ⟨w1, w2⟩ := hsh _ q1 q2
    obtain ⟨g1, g2, g3, g4⟩ := hf (if k = kx then n else k) (by have := (hgr k hkn).1; omega)
    obtain ⟨v1, v2, v3⟩ := hy k hkn
    obtain ⟨u1, u2, u3⟩ := hz _ w1
    rw [w2] at u1 u2 u3
    refine ⟨Int.ofNat_lt.mpr w1, ?_, ?_, ?_⟩
    · rw [v1, g2]; exact u1.symm
    · rw [v2, g3]; exact u2.symm
    · rw [v3, g4]; exact u3.symm
  · have hjn : j < n := by omega
    obtain ⟨q1, q2⟩ := hfg i (by omega)
    obtain ⟨q3, q4⟩ := hfg j hjn
    have hne : f (if i = kx then n else i) ≠ f (if j = kx then n else j) := by
      have hd : (if i = kx then n else i) ≠ (if j = kx then n else j) := by
        by_cases e : i = kx
        · rw [if_pos e, if_neg (by omega)]; omega
        · rw [if_neg e]
          by_cases e2 : j = kx
          · rw [if_pos e2]; omega
          · rw [if_neg e2]; omega
      have r1 := (hgr i (by omega)).1
      have r2 := (hgr j hjn).1
      rcases Nat.lt_or_gt_of_ne hd with w | w
      · exact hfi _ _ w (by omega)
      · exact fun q => hfi _ _ w (by omega) q.symm
    show (if f (if i = kx then n else i) < jr then f (if i = kx then n else i) else f (if i = kx then n else i) - 1) ≠ (if f (if j = kx then n else j) < jr then f (if j = kx then n else j) else f (if j = kx then n else j) - 1)
    obtain ⟨a, ha⟩ : ∃ a, a = f (if i = kx then n else i) := ⟨_, rfl⟩
    obtain ⟨c, hc⟩ : ∃ c, c = f (if j = kx then n else j) := ⟨_, rfl⟩
    rw [← ha] at q1 q2 hne ⊢
    rw [← hc] at q3 q4 hne ⊢
    by_cases e1 : a < jr
    · rw [if_pos e1]
      by_cases e2 : c < jr
      · rw [if_pos e2]; exact hne
      · rw [if_neg e2]; omega
    · rw [if_neg e1]
      by_cases e2 : c < jr
      · rw [if_pos e2]; omega
      · rw [if_neg e2]; omega
  · obtain ⟨u1, u2, u3⟩ := hz k (by omega)
    rw [u1, u2, u3]
    exact s4 _ (by have := hup k (by omega); omega)
  · obtain ⟨u1, u2, u3⟩ := hz i (by omega)
    obtain ⟨v1, v2, v3⟩ := hz j (by omega)
    rw [u1, v1] at hbb
    rw [u2, u3, v2, v3]
    refine s5 _ _ (by have := hup i (by omega); omega) (by have := hup j (by omega); omega) ?_ hbb
    by_cases e1 : i < jr
    · rw [if_pos e1]
      by_cases e2 : j < jr
      · rw [if_pos e2]; exact hij
      · rw [if_neg e2]; omega
    · rw [if_neg e1]
      by_cases e2 : j < jr
      · rw [if_pos e2]; omega
      · rw [if_neg e2]; omega
-- ===== all that `home` may change =====
def FXH (x y : MS) : Prop := (∀ j, ¬ (j = 0 ∨ (4 ≤ j ∧ j ≤ 9)) → y.1 j = x.1 j) ∧ (∀ j, ¬ (j ≤ 2 ∨ (11 ≤ j ∧ j ≤ 26)) → y.2 j = x.2 j)
def FMH (m y : MS) : Prop := (∀ j, ¬ (3 ≤ j ∧ j ≤ 11) → y.1 j = m.1 j) ∧ (∀ j, ¬ (7 ≤ j ∧ j ≤ 19) → y.2 j = m.2 j)
def hX (x : MS) (a : Nat → Int32) (c : Nat → Nat → Int32) : MS := (fun j => if j = 0 ∨ (4 ≤ j ∧ j ≤ 9) then a j else x.1 j, fun j => if j ≤ 2 ∨ (11 ≤ j ∧ j ≤ 26) then c j else x.2 j)
def hM (m : MS) (a : Nat → Int32) (c : Nat → Nat → Int32) : MS := (fun j => if 3 ≤ j ∧ j ≤ 11 then a j else m.1 j, fun j => if 7 ≤ j ∧ j ≤ 19 then c j else m.2 j)
theorem fxh_eq {x y : MS} (h : FXH x y) : ∃ a c, y = hX x a c := by
  refine ⟨y.1, y.2, Prod.ext (funext fun j => ?_) (funext fun j => ?_)⟩
  · show y.1 j = if j = 0 ∨ (4 ≤ j ∧ j ≤ 9) then y.1 j else x.1 j
    by_cases e : j = 0 ∨ (4 ≤ j ∧ j ≤ 9)
    · rw [if_pos e]
    · rw [if_neg e]; exact h.1 j e
  · show y.2 j = if j ≤ 2 ∨ (11 ≤ j ∧ j ≤ 26) then y.2 j else x.2 j
    by_cases e : j ≤ 2 ∨ (11 ≤ j ∧ j ≤ 26)
    · rw [if_pos e]
    · rw [if_neg e]; exact h.2 j e
theorem fmh_eq {x y : MS} (h : FMH x y) : ∃ a c, y = hM x a c := by
  refine ⟨y.1, y.2, Prod.ext (funext fun j => ?_) (funext fun j => ?_)⟩
  · show y.1 j = if 3 ≤ j ∧ j ≤ 11 then y.1 j else x.1 j
    by_cases e : 3 ≤ j ∧ j ≤ 11
    · rw [if_pos e]
    · rw [if_neg e]; exact h.1 j e
  · show y.2 j = if 7 ≤ j ∧ j ≤ 19 then y.2 j else x.2 j
    by_cases e : 7 ≤ j ∧ j ≤ 19
    · rw [if_pos e]
    · rw [if_neg e]; exact h.2 j e
theorem inv_h {x m y z : MS} (h : Inv x m) (hx : FXH x y) (hm : FMH m z) (hS' : JS y z) (hT' : JT y z) (hK' : JK y z) : Inv y z := by
  obtain ⟨hL, hB, hO, hH, hS, hT, hK, hC, hW, hP, hR, hU⟩ := h
  obtain ⟨a, c, rfl⟩ := fxh_eq hx
  obtain ⟨b, d, rfl⟩ := fmh_eq hm
  exact ⟨hL, hB, hO, hH, hS', hT', hK', hC, hW, hP, hR, hU⟩
theorem back_fxw {x y : MS} {kx day : Nat} (h : FXW (cut x kx day) y) : FXW x (pa y 13 kx (x.2 13 kx)) := by
  refine ⟨h.1, fun j hj => ?_⟩
  show (if j = 13 then upd (y.2 13) kx (x.2 13 kx) else y.2 j) = x.2 j
  by_cases e : j = 13
  · rw [if_pos e, e, h.2 13 (by omega)]
    show upd (upd (x.2 13) kx (nI day)) kx (x.2 13 kx) = x.2 13
    rw [upd_upd, upd_self]
  · rw [if_neg e, h.2 j hj]
    exact if_neg e
