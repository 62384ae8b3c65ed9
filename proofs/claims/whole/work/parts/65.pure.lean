-- ===== a rule's reckoning =====
theorem mul60 : ∀ r, r < 8 → nI r * (60 : Int32) = nI (60 * r) := by decide +kernel
theorem nI_m1 {n : Nat} (h : n < 2 ^ 30) : nI (n + 1) + (-1 : Int32) = nI n := by
  rw [fa_eq, fb_addI (by rw [nI_toInt (by omega)]; show _ ≤ ((n + 1 : Nat) : Int) + (-1 : Int); omega) (by rw [nI_toInt (by omega)]; show ((n + 1 : Nat) : Int) + (-1 : Int) < _; omega), nI_toInt (by omega), nI_toInt (by omega)]
  show ((n + 1 : Nat) : Int) + (-1 : Int) = _
  omega
theorem nI_m2 {n : Nat} (h : n < 2 ^ 30) : nI (n + 2) + (-2 : Int32) = nI n := by
  rw [fa_eq, fb_addI (by rw [nI_toInt (by omega)]; show _ ≤ ((n + 2 : Nat) : Int) + (-2 : Int); omega) (by rw [nI_toInt (by omega)]; show ((n + 2 : Nat) : Int) + (-2 : Int) < _; omega), nI_toInt (by omega), nI_toInt (by omega)]
  show ((n + 2 : Nat) : Int) + (-2 : Int) = _
  omega
theorem pf_pf (s : MS) (i : Nat) (a b : Int32) : pf (pf s i a) i b = pf s i b := by
  unfold pf
  refine Prod.ext (funext fun j => ?_) rfl
  show (if j = i then b else (if j = i then a else s.1 j)) = if j = i then b else s.1 j
  by_cases c : j = i
  · rw [if_pos c, if_pos c]
  · rw [if_neg c, if_neg c, if_neg c]
theorem pf_at (s : MS) (i : Nat) (v : Int32) : (pf s i v).1 i = v := if_pos rfl
theorem push_eq {s : MS} {t : Nat} (ht : t < 60) (h : s.1 29 = nI t) (v : Int32) : f_Rules_push v s = some (pf (pa s 42 t v) 29 (nI (t + 1))) := by
  unfold f_Rules_push
  have n1 : ¬ (60 : Int32) ≤ nI t := by rw [fa_le, nI_toInt (by omega)]; show ¬ (60 : Int) ≤ (t : Int); omega
  rw [h, if_neg n1, chk_t (ib_nI ht (by omega)), bnd_eq, bnd_eq, nI_clamp (by omega), show (pa s 42 t v).1 29 = nI t from h, nI_1]
theorem pop_eq {s : MS} {t : Nat} (ht : t < 60) (h : s.1 29 = nI (t + 1)) : f_Rules_pop s = some (s.2 42 t, pf s 29 (nI t)) := by
  unfold f_Rules_pop
  have n1 : (0 : Int32) < nI (t + 1) := by rw [fa_lt, nI_toInt (by omega)]; show (0 : Int) < ((t + 1 : Nat) : Int); omega
  rw [h, if_pos n1, nI_pred, bnd_eq, pf_at, chk_t (ib_nI ht (by omega)), bnd_eq, nI_clamp (by omega)]
  rfl
/-- what one step of a reckoning leaves as it was -/
def RK (x m x' m' : MS) (t : Nat) : Prop := x'.1 29 = nI t ∧ (∀ j, j < t → x'.2 42 j = m'.2 35 j) ∧ Inv x' m' ∧ x'.2 41 = x.2 41 ∧ x'.2 40 = x.2 40 ∧ m'.2 31 = m.2 31 ∧ m'.2 32 = m.2 32 ∧ m'.2 33 = m.2 33 ∧ m'.1 4 = m.1 4
theorem ag_upd {A B : Nat → Int32} {u : Nat} (h : ∀ j, j < u → A j = B j) (w : Int32) : ∀ j, j < u + 1 → upd A u w j = upd B u w j := by
  intro j hj
  by_cases e : j = u
  · rw [e, pk_us, pk_us]
  · rw [pk_un e, pk_un e]
    exact h j (by omega)
theorem rk_fin0 {x m : MS} (h : Inv x m) {u : Nat} (hag : ∀ j, j < u → x.2 42 j = m.2 35 j) (w : Int32) : RK x m (pf (pa x 42 u w) 29 (nI (u + 1))) (pa m 35 u w) (u + 1) :=
  ⟨pf_at _ _ _, ag_upd hag w, h, rfl, rfl, rfl, rfl, rfl, rfl⟩
theorem rk_fin1 {x m : MS} (h : Inv x m) {u : Nat} (hag : ∀ j, j < u → x.2 42 j = m.2 35 j) (c w : Int32) : RK x m (pf (pa (pf x 29 c) 42 u w) 29 (nI (u + 1))) (pa m 35 u w) (u + 1) :=
  ⟨pf_at _ _ _, ag_upd hag w, h, rfl, rfl, rfl, rfl, rfl, rfl⟩
theorem two_eq {s v : Int32} (h : 10 ≤ s.toInt ∧ s.toInt ≤ 16) (a b : Int32) : ∃ w, f_Md_two s a b = some w ∧ f_Rules_join (-(tr s v)) a b = some w := by
  have dv : ∀ z : Int32, b ≠ 0 → chk (decide (¬ b = 0)) (some z) = some z := fun z hb => chk_t (decide_eq_true hb)
  rcases (by omega : s.toInt = 10 ∨ s.toInt = 11 ∨ s.toInt = 12 ∨ s.toInt = 13 ∨ s.toInt = 14 ∨ s.toInt = 15 ∨ s.toInt = 16) with e | e | e | e | e | e | e
  · have e : s = 10 := (fa_eq _ _).mpr e
    subst e
    exact ⟨_, rfl, rfl⟩
  · have e : s = 11 := (fa_eq _ _).mpr e
    subst e
    exact ⟨_, rfl, rfl⟩
  · have e : s = 12 := (fa_eq _ _).mpr e
    subst e
    exact ⟨_, rfl, rfl⟩
  · have e : s = 13 := (fa_eq _ _).mpr e
    subst e
    by_cases c : b = 0
    · refine ⟨0, ?_, ?_⟩
      · show (if b = 0 then some (0 : Int32) else chk (decide (¬ b = 0)) (some (a / b))) = _
        rw [if_pos c]
      · show (if b = 0 then some (0 : Int32) else chk (decide (¬ b = 0)) (some (a / b))) = _
        rw [if_pos c]
    · refine ⟨a / b, ?_, ?_⟩
      · show (if b = 0 then some (0 : Int32) else chk (decide (¬ b = 0)) (some (a / b))) = _
        rw [if_neg c, dv _ c]
      · show (if b = 0 then some (0 : Int32) else chk (decide (¬ b = 0)) (some (a / b))) = _
        rw [if_neg c, dv _ c]
  · have e : s = 14 := (fa_eq _ _).mpr e
    subst e
    by_cases c : b = 0
    · refine ⟨0, ?_, ?_⟩
      · show (if b = 0 then some (0 : Int32) else chk (decide (¬ b = 0)) (some (a - a / b * b))) = _
        rw [if_pos c]
      · show (if b = 0 then some (0 : Int32) else chk (decide (¬ b = 0)) (some (a - a / b * b))) = _
        rw [if_pos c]
    · refine ⟨a - a / b * b, ?_, ?_⟩
      · show (if b = 0 then some (0 : Int32) else chk (decide (¬ b = 0)) (some (a - a / b * b))) = _
        rw [if_neg c, dv _ c]
      · show (if b = 0 then some (0 : Int32) else chk (decide (¬ b = 0)) (some (a - a / b * b))) = _
        rw [if_neg c, dv _ c]
  · have e : s = 15 := (fa_eq _ _).mpr e
    subst e
    by_cases c : b ≤ a
    · refine ⟨0, ?_, ?_⟩
      · show (if b ≤ a then some (0 : Int32) else some 1) = _
        rw [if_pos c]
      · show (if b ≤ a then some (0 : Int32) else some 1) = _
        rw [if_pos c]
    · refine ⟨1, ?_, ?_⟩
      · show (if b ≤ a then some (0 : Int32) else some 1) = _
        rw [if_neg c]
      · show (if b ≤ a then some (0 : Int32) else some 1) = _
        rw [if_neg c]
  · have e : s = 16 := (fa_eq _ _).mpr e
    subst e
    by_cases c : a = b
    · refine ⟨1, ?_, ?_⟩
      · show (if a = b then some (1 : Int32) else some 0) = _
        rw [if_pos c]
      · show (if a = b then some (1 : Int32) else some 0) = _
        rw [if_pos c]
    · refine ⟨0, ?_, ?_⟩
      · show (if a = b then some (1 : Int32) else some 0) = _
        rw [if_neg c]
      · show (if a = b then some (1 : Int32) else some 0) = _
        rw [if_neg c]
/-- the class's step, by its item -/
theorem xr_item {x : MS} {r : Nat} {f n d : Int32} {i sz : Nat} (hr : r < 8) (hs : x.2 40 r = nI sz) (hsz : sz ≤ 60) (hi : i < sz) {item : Int32} (hit : x.2 41 (60 * r + i) = item) :
    Rules_reckon_l29 (nI r) f n d (nI (60 * r)) (nI (60 * r + i)) x = (if item = (-110 : Int32) then ((f_Rules_push n x).bind fun s6 => some (.inl (nI (60 * r + i + 1), s6))) else (if item = (-102 : Int32) then ((f_Rules_push f x).bind fun s8 => some (.inl (nI (60 * r + i + 1), s8))) else (if item = (-100 : Int32) then ((f_Rules_push d x).bind fun s10 => some (.inl (nI (60 * r + i + 1), s10))) else ((f_Rules_workOn item x).bind fun s12 => some (.inl (nI (60 * r + i + 1), s12)))))) := by
  unfold Rules_reckon_l29
  have n1 : ¬ nI (60 * r + sz) ≤ nI (60 * r + i) := nI_ge (by omega) (by omega)
  rw [chk_t (ib_nI hr (by omega)), bnd_eq, nI_clamp (n := r) (by omega), hs, nI_add, if_neg n1, chk_t (ib_nI (by omega) (by omega)), bnd_eq, bnd_eq, nI_clamp (n := 60 * r + i) (by omega), hit, nI_1]
  rfl
theorem rk_step {x m : MS} (h : Inv x m) {r p sz i t : Nat} (f n d : Int32) (hr : r < 8) (hp : p ≤ 60 * r) (hs : x.2 40 r = nI sz) (hsz : sz ≤ 60) (hi : i < sz) (h31 : m.2 31 (r + 1) = nI (p + sz)) (hit : x.2 41 (60 * r + i) = tr (m.2 32 (p + i)) (m.2 33 (p + i))) (hok : sg_ok (m.2 32 (p + i)) (m.2 33 (p + i))) (htk : tk (m.2 32 (p + i)) ≤ (t : Int)) (hti : t ≤ i) (h29 : x.1 29 = nI t) (hag : ∀ j, j < t → x.2 42 j = m.2 35 j) :
    ∃ (x' m' : MS) (t' : Nat), Rules_reckon_l29 (nI r) f n d (nI (60 * r)) (nI (60 * r + i)) x = some (.inl (nI (60 * r + i + 1), x')) ∧ Md_work_l11 (nI r) f n d (nI t) (nI (p + i)) m = some (.inl (nI t', nI (p + i + 1), m')) ∧ (t' : Int) = t + gr (m.2 32 (p + i)) ∧ t' ≤ i + 1 ∧ RK x m x' m' t' := by
  obtain ⟨s, es⟩ : ∃ s, s = m.2 32 (p + i) := ⟨_, rfl⟩
  obtain ⟨v, ev⟩ : ∃ v, v = m.2 33 (p + i) := ⟨_, rfl⟩
  rw [← es, ← ev] at hit hok
  rw [← es] at htk
  rw [xr_item hr hs hsz hi hit, ← es]
  have n1 : ¬ nI (p + sz) ≤ nI (p + i) := nI_ge (by omega) (by omega)
  have hI : inb (nI (p + i)) 1000 = true := ib_nI (by omega) (by omega)
  unfold Md_work_l11
  rw [nI_1 r, chk_t (ib_nI (by omega) (by omega)), bnd_eq, nI_clamp (n := r + 1) (by omega), h31, if_neg n1, chk_t hI, bnd_eq, nI_clamp (n := p + i) (by omega), ← es, ← ev, nI_1 (p + i)]
  rcases hok with ⟨k1, k2, k3⟩ | k | k | k
  · -- what is pushed
    have n5 : ¬ (5 : Int32) ≤ s := by rw [fa_le]; show ¬ (5 : Int) ≤ s.toInt; omega
    have hT : inb (nI t) 130 = true := ib_nI (by omega) (by omega)
    have hg : gr s = 1 := by unfold gr tk; rw [if_pos (by omega)]; rfl
    rw [if_neg n5]
    rcases (by omega : s.toInt = 1 ∨ s.toInt = 2 ∨ s.toInt = 3 ∨ s.toInt = 4) with e | e | e | e
    · have e : s = 1 := (fa_eq _ _).mpr e
      rw [if_pos e, chk_t hT, bnd_eq, bnd_eq, bnd_eq, nI_clamp (n := t) (by omega), nI_1]
      have ht : tr s v = -102 := by unfold tr; rw [if_pos e]
      rw [ht, if_neg (by decide), if_pos rfl, push_eq (by omega) h29]
      exact ⟨_, _, t + 1, rfl, rfl, by omega, by omega, rk_fin0 h hag _⟩
    · have e : s = 2 := (fa_eq _ _).mpr e
      have ne : ¬ s = 1 := by rw [e]; decide
      rw [if_neg ne, if_pos e, chk_t hT, bnd_eq, bnd_eq, bnd_eq, nI_clamp (n := t) (by omega), nI_1]
      have ht : tr s v = -110 := by unfold tr; rw [if_neg ne, if_pos e]
      rw [ht, if_pos rfl, push_eq (by omega) h29]
      exact ⟨_, _, t + 1, rfl, rfl, by omega, by omega, rk_fin0 h hag _⟩
    · have e : s = 3 := (fa_eq _ _).mpr e
      have ne : ¬ s = 1 := by rw [e]; decide
      have ne2 : ¬ s = 2 := by rw [e]; decide
      rw [if_neg ne, if_neg ne2, if_pos e, chk_t hT, bnd_eq, bnd_eq, bnd_eq, nI_clamp (n := t) (by omega), nI_1]
      have ht : tr s v = -100 := by unfold tr; rw [if_neg ne, if_neg ne2, if_pos e]
      rw [ht, if_neg (by decide), if_neg (by decide), if_pos rfl, push_eq (by omega) h29]
      exact ⟨_, _, t + 1, rfl, rfl, by omega, by omega, rk_fin0 h hag _⟩
    · have e : s = 4 := (fa_eq _ _).mpr e
      have ne : ¬ s = 1 := by rw [e]; decide
      have ne2 : ¬ s = 2 := by rw [e]; decide
      have ne3 : ¬ s = 3 := by rw [e]; decide
      have hv := (k3 e).1
      rw [if_neg ne, if_neg ne2, if_neg ne3, chk_t hI, bnd_eq, chk_t hT, bnd_eq, bnd_eq, bnd_eq, nI_clamp (n := t) (by omega), nI_1]
      have ht : tr s v = v := by unfold tr; rw [if_neg ne, if_neg ne2, if_neg ne3, if_pos e]
      have nv : ∀ c : Int32, c.toInt < 0 → ¬ v = c := fun c hc q => by rw [q] at hv; omega
      have nz : ¬ v < 0 := by rw [fa_lt]; show ¬ v.toInt < 0; omega
      rw [ht, if_neg (nv _ (by decide)), if_neg (nv _ (by decide)), if_neg (nv _ (by decide))]
      unfold f_Rules_workOn
      rw [if_neg nz, push_eq (by omega) h29]
      exact ⟨_, _, t + 1, rfl, rfl, by omega, by omega, rk_fin0 h hag _⟩
  · -- two are joined
    have n5 : (5 : Int32) ≤ s := by rw [fa_le]; show (5 : Int) ≤ s.toInt; omega
    have ne : ¬ s = 18 := fun q => by rw [q] at k; have k : (18 : Int) ≤ 16 := k.2; omega
    have ne2 : ¬ s = 19 := fun q => by rw [q] at k; have k : (19 : Int) ≤ 16 := k.2; omega
    have hk : tk s = 2 := by unfold tk; rw [if_neg (by omega), if_neg ne, if_neg ne2]
    rw [hk] at htk
    obtain ⟨u, rfl⟩ : ∃ u, t = u + 2 := ⟨t - 2, by omega⟩
    have e1 : nI (u + 2) + (-1 : Int32) = nI (u + 1) := nI_m1 (by omega)
    obtain ⟨w, w1, w2⟩ := two_eq (v := v) k (m.2 35 u) (m.2 35 (u + 1))
    rw [if_pos n5, if_neg ne, if_neg ne2, bnd_eq, e1, nI_pred, chk_t (ib_nI (by omega) (by omega)), bnd_eq, nI_clamp (n := u) (by omega), chk_t (ib_nI (by omega) (by omega)), bnd_eq, nI_clamp (n := u + 1) (by omega), w1, Option.bind_some, chk_t (ib_nI (by omega) (by omega)), bnd_eq, bnd_eq]
    have hneg : tr s v = -43 ∨ tr s v = -45 ∨ tr s v = -42 ∨ tr s v = -47 ∨ tr s v = -37 ∨ tr s v = -60 ∨ tr s v = -61 := by
      rcases (by omega : s.toInt = 10 ∨ s.toInt = 11 ∨ s.toInt = 12 ∨ s.toInt = 13 ∨ s.toInt = 14 ∨ s.toInt = 15 ∨ s.toInt = 16) with e | e | e | e | e | e | e
      · rw [show s = 10 from (fa_eq _ _).mpr e]; exact Or.inl rfl
      · rw [show s = 11 from (fa_eq _ _).mpr e]; exact Or.inr (Or.inl rfl)
      · rw [show s = 12 from (fa_eq _ _).mpr e]; exact Or.inr (Or.inr (Or.inl rfl))
      · rw [show s = 13 from (fa_eq _ _).mpr e]; exact Or.inr (Or.inr (Or.inr (Or.inl rfl)))
      · rw [show s = 14 from (fa_eq _ _).mpr e]; exact Or.inr (Or.inr (Or.inr (Or.inr (Or.inl rfl))))
      · rw [show s = 15 from (fa_eq _ _).mpr e]; exact Or.inr (Or.inr (Or.inr (Or.inr (Or.inr (Or.inl rfl)))))
      · rw [show s = 16 from (fa_eq _ _).mpr e]; exact Or.inr (Or.inr (Or.inr (Or.inr (Or.inr (Or.inr rfl)))))
    obtain ⟨it, hit2⟩ : ∃ it, it = tr s v := ⟨_, rfl⟩
    rw [← hit2] at hneg w2 ⊢
    have nn : ¬ it = -110 ∧ ¬ it = -102 ∧ ¬ it = -100 ∧ it < 0 ∧ ¬ it = -126 ∧ ¬ it = -63 := by
      rcases hneg with e | e | e | e | e | e | e <;> (rw [e]; decide)
    obtain ⟨z1, z2, z3, z4, z5, z6⟩ := nn
    rw [if_neg z1, if_neg z2, if_neg z3]
    unfold f_Rules_workOn
    rw [if_pos z4, if_neg z5, if_neg z6, pop_eq (t := u + 1) (by omega) h29, bd2_some, pop_eq (s := pf x 29 (nI (u + 1))) (t := u) (by omega) (pf_at _ _ _), bd2_some, pf_pf]
    have a1 : (pf x 29 (nI (u + 1))).2 42 u = m.2 35 u := hag u (by omega)
    rw [a1, hag (u + 1) (by omega), w2, Option.bind_some, push_eq (s := pf x 29 (nI u)) (t := u) (by omega) (pf_at _ _ _)]
    exact ⟨_, _, u + 1, rfl, rfl, by unfold gr; rw [hk]; omega, by omega, rk_fin1 h (fun j hj => hag j (by omega)) _ _⟩
  · -- the sign is turned
    have n5 : (5 : Int32) ≤ s := by rw [k]; decide
    have hk : tk s = 1 := by rw [k]; rfl
    rw [hk] at htk
    obtain ⟨u, rfl⟩ : ∃ u, t = u + 1 := ⟨t - 1, by omega⟩
    rw [if_pos n5, if_pos k, nI_pred, chk_t (ib_nI (by omega) (by omega)), bnd_eq, nI_clamp (n := u) (by omega), chk_t (ib_nI (by omega) (by omega)), bnd_eq, bnd_eq]
    have ht : tr s v = -126 := by rw [k]; rfl
    rw [ht, if_neg (by decide), if_neg (by decide), if_neg (by decide)]
    unfold f_Rules_workOn
    rw [if_pos (by decide), if_pos rfl, pop_eq (t := u) (by omega) h29, bd2_some, push_eq (s := pf x 29 (nI u)) (t := u) (by omega) (pf_at _ _ _), hag u (by omega)]
    exact ⟨_, _, u + 1, rfl, rfl, by unfold gr; rw [hk]; omega, by omega, rk_fin1 h (fun j hj => hag j (by omega)) _ _⟩
  · -- if, then, else
    have n5 : (5 : Int32) ≤ s := by rw [k]; decide
    have ne : ¬ s = 18 := by rw [k]; decide
    have hk : tk s = 3 := by rw [k]; rfl
    rw [hk] at htk
    obtain ⟨u, rfl⟩ : ∃ u, t = u + 3 := ⟨t - 3, by omega⟩
    have e1 : nI (u + 3) + (-2 : Int32) = nI (u + 1) := nI_m2 (by omega)
    rw [if_pos n5, if_neg ne, if_pos k, bnd_eq, e1, nI_pred, chk_t (ib_nI (by omega) (by omega)), bnd_eq, nI_clamp (n := u) (by omega), nI_1 (u + 1)]
    have ht : tr s v = -63 := by rw [k]; rfl
    rw [ht, if_neg (by decide), if_neg (by decide), if_neg (by decide)]
    unfold f_Rules_workOn
    rw [if_pos (by decide), if_neg (by decide), if_pos rfl, pop_eq (t := u + 2) (by omega) h29, bd2_some, pop_eq (s := pf x 29 (nI (u + 2))) (t := u + 1) (by omega) (pf_at _ _ _), bd2_some, pf_pf, pop_eq (s := pf x 29 (nI (u + 1))) (t := u) (by omega) (pf_at _ _ _), bd2_some, pf_pf]
    have a1 : (pf x 29 (nI (u + 1))).2 42 u = m.2 35 u := hag u (by omega)
    have a2 : (pf x 29 (nI (u + 2))).2 42 (u + 1) = m.2 35 (u + 1) := hag (u + 1) (by omega)
    rw [a1, a2, hag (u + 2) (by omega)]
    by_cases c : m.2 35 u = 0
    · rw [if_pos c, if_pos c, chk_t (ib_nI (by omega) (by omega)), bnd_eq, nI_clamp (n := u + 2) (by omega), chk_t (ib_nI (by omega) (by omega)), bnd_eq, bnd_eq, push_eq (s := pf x 29 (nI u)) (t := u) (by omega) (pf_at _ _ _)]
      exact ⟨_, _, u + 1, rfl, rfl, by unfold gr; rw [hk]; omega, by omega, rk_fin1 h (fun j hj => hag j (by omega)) _ _⟩
    · rw [if_neg c, if_neg c, chk_t (ib_nI (by omega) (by omega)), bnd_eq, nI_clamp (n := u + 1) (by omega), chk_t (ib_nI (by omega) (by omega)), bnd_eq, bnd_eq, push_eq (s := pf x 29 (nI u)) (t := u) (by omega) (pf_at _ _ _)]
      exact ⟨_, _, u + 1, rfl, rfl, by unfold gr; rw [hk]; omega, by omega, rk_fin1 h (fun j hj => hag j (by omega)) _ _⟩
theorem reckon_eq {x m : MS} (h : Inv x m) {r : Nat} (hr : (r : Int) < (m.1 24).toInt) (f n d : Int32) : ∃ (v : Int32) (x' m' : MS), f_Rules_reckon (nI r) f n d x = some (v, x') ∧ f_Md_work (nI r) f n d m = some (v, m') ∧ Inv x' m' ∧ m'.1 4 = m.1 4 := by
  obtain ⟨hL, hB, hO, hH, hS, hT, hK, hC, hW, hP, hR, hU⟩ := id h
  obtain ⟨u1, u2, u3, u4, u5⟩ := id hU
  have u32 := u3.2
  have hr8 : r < 8 := by omega
  obtain ⟨p, sz, v1, v2, v3, v4, v5, v6, v7, v8⟩ := u5 r hr
  have np : ¬ nI r < 0 := nI_pos (by omega)
  have nl : nI r < x.1 28 := by rw [u1, fa_lt, nI_toInt (by omega)]; exact hr
  unfold f_Rules_reckon f_Md_work
  rw [if_neg np, if_pos nl, bnd_eq, bnd_eq, mul60 r hr8, chk_t (ib_nI (by omega) (by omega)), bnd_eq, nI_clamp (n := r) (by omega), v1]
  have main := loop_two (f := fun z => Rules_reckon_l29 (nI r) f n d (nI (60 * r)) z.1 z.2) (g := fun z => Md_work_l11 (nI r) f n d z.1 z.2.1 z.2.2)
    (fun i X Y => ∃ t : Nat, (t : Int) = si (fun j => gr (m.2 32 (p + j))) i ∧ t ≤ i ∧ X.1 = nI (60 * r + i) ∧ Y.1 = nI t ∧ Y.2.1 = nI (p + i) ∧ RK x m X.2 Y.2.2 t)
    (fun a b => a.1 = b.1 ∧ Inv a.2 b.2 ∧ b.2.1 4 = m.1 4) sz (by
      rintro i ⟨a1, a2⟩ ⟨b1, b2, b3⟩ hi ⟨t, g1, g2, g3, g4, g5, g6⟩
      have g3 : a1 = nI (60 * r + i) := g3
      have g4 : b1 = nI t := g4
      have g5 : b2 = nI (p + i) := g5
      obtain ⟨w1, w2, w3, w4, w5, w6, w7, w8, w9⟩ : RK x m a2 b3 t := g6
      obtain ⟨z1, z2⟩ := v7.1 i hi
      obtain ⟨x', m', t', y1, y2, y3, y4, y5⟩ := rk_step w3 (r := r) (p := p) (sz := sz) (i := i) (t := t) f n d hr8 v3 (by rw [w5]; exact v6) v5 hi (by rw [w6]; exact v2) (by rw [w4, w7, w8]; exact v8 i hi) (by rw [w7, w8]; exact z1) (by rw [w7, g1]; exact z2) g2 w1 w2
      refine ⟨(nI (60 * r + i + 1), x'), (nI t', nI (p + i + 1), m'), ?_, ?_, t', ?_, y4, rfl, rfl, rfl, ?_⟩
      · show Rules_reckon_l29 (nI r) f n d (nI (60 * r)) a1 a2 = _
        rw [g3]; exact y1
      · show Md_work_l11 (nI r) f n d b1 b2 b3 = _
        rw [g4, g5]; exact y2
      · rw [w7] at y3
        rw [y3, g1]
        rfl
      · obtain ⟨e1, e2, e3, e4, e5, e6, e7, e8, e9⟩ := y5
        exact ⟨e1, e2, e3, e4.trans w4, e5.trans w5, e6.trans w6, e7.trans w7, e8.trans w8, e9.trans w9⟩) (by
      rintro ⟨a1, a2⟩ ⟨b1, b2, b3⟩ ⟨t, g1, g2, g3, g4, g5, g6⟩
      have g3 : a1 = nI (60 * r + sz) := g3
      have g4 : b1 = nI t := g4
      have g5 : b2 = nI (p + sz) := g5
      obtain ⟨w1, w2, w3, w4, w5, w6, w7, w8, w9⟩ : RK x m a2 b3 t := g6
      have ht : t = 1 := by have := v7.2; omega
      subst ht
      refine ⟨(a2.2 42 0, pf a2 29 (nI 0)), (b3.2 35 0, b3), ?_, ?_, w2 0 (by omega), w3, w9⟩
      · show Rules_reckon_l29 (nI r) f n d (nI (60 * r)) a1 a2 = _
        unfold Rules_reckon_l29
        rw [chk_t (ib_nI hr8 (by omega)), bnd_eq, nI_clamp (n := r) (by omega), w5, v6, nI_add, g3, if_pos (Int32.le_refl _), pop_eq (t := 0) (by omega) w1]
        rfl
      · show Md_work_l11 (nI r) f n d b1 b2 b3 = _
        unfold Md_work_l11
        rw [nI_1 r, chk_t (ib_nI (by omega) (by omega)), bnd_eq, nI_clamp (n := r + 1) (by omega), w6, v2, g5, if_pos (Int32.le_refl _)]
        rfl)
  obtain ⟨a, b, h1, h2, h3, h4, h5⟩ := main sz 0 (nI (60 * r), pf x 29 0) ((0 : Int32), nI p, m) (by omega) ⟨0, rfl, Nat.le_refl 0, rfl, nI_0.symm, rfl, ⟨(pf_at _ _ _).trans nI_0.symm, fun j hj => absurd hj (by omega), h, rfl, rfl, rfl, rfl, rfl, rfl⟩⟩
  exact ⟨b.1, a.2, b.2, by rw [h1, ← h3], h2, h4, h5⟩
theorem st_says : St_says Inv := by
  intro a1 a2 a3 a4 sx sm h
  obtain ⟨hL, hB, hO, hH, hS, hT, hK, hC, hW, hP, hR, hU⟩ := id h
  obtain ⟨u1, u2, u3, u4, u5⟩ := id hU
  unfold f_Hb_says f_Md_says
  by_cases c1 : 0 ≤ a1.toInt ∧ a1.toInt < (sm.1 24).toInt
  · have e1 := cnt_nI c1.1
    have k1 := cl_ti c1.1
    obtain ⟨i1, f1⟩ : ∃ n, n = a1.toNatClampNeg := ⟨_, rfl⟩
    rw [← f1] at e1 k1
    obtain ⟨v, x', m', h1, h2, h3, h4⟩ := reckon_eq h (r := i1) (by omega) a2 a3 a4
    rw [inc_t u3 c1, Option.bind_some, if10, e1, h1, h2]
    exact ⟨v, x', m', rfl, rfl, h3⟩
  · rw [inc_f u3 c1, Option.bind_some, if00]
    unfold f_Rules_reckon
    by_cases n1 : a1 < 0
    · rw [if_pos n1]
      exact ⟨0, _, _, rfl, rfl, h⟩
    · rw [if_neg n1, if_neg (by rw [fa_lt, u1]; rw [fa_lt] at n1; have n1 : ¬ a1.toInt < 0 := n1; omega : ¬ a1 < sx.1 28)]
      exact ⟨0, _, _, rfl, rfl, h⟩
