-- ===== two loops side by side =====
theorem loop_two {S T R Q : Type} {f : S → Option (S ⊕ R)} {g : T → Option (T ⊕ Q)} (K : Nat → S → T → Prop) (P : R → Q → Prop) (N : Nat) (hs : ∀ k s t, k < N → K k s t → ∃ s' t', f s = some (.inl s') ∧ g t = some (.inl t') ∧ K (k + 1) s' t') (he : ∀ s t, K N s t → ∃ r q, f s = some (.inr r) ∧ g t = some (.inr q) ∧ P r q) : ∀ (n k : Nat) (s : S) (t : T), k + n = N → K k s t → ∃ r q, loop f s = some r ∧ loop g t = some q ∧ P r q
  | 0, k, s, t, hk, h => by
    have hk : k = N := hk
    subst hk
    obtain ⟨r, q, h1, h2, h3⟩ := he s t h
    exact ⟨r, q, loop_inr h1, loop_inr h2, h3⟩
  | n + 1, k, s, t, hk, h => by
    obtain ⟨s', t', h1, h2, h3⟩ := hs k s t (by omega) h
    obtain ⟨r, q, h4, h5, h6⟩ := loop_two K P N hs he n (k + 1) s' t' (by omega) h3
    exact ⟨r, q, (loop_inl h1).trans h4, (loop_inl h2).trans h5, h6⟩
theorem si_cong {f g : Nat → Int} : ∀ {n : Nat}, (∀ k, k < n → f k = g k) → si f n = si g n
  | 0, _ => rfl
  | n + 1, h => by
    show si f n + f n = si g n + g n
    rw [si_cong (fun k hk => h k (by omega)), h n (by omega)]
theorem si_rng {f : Nat → Int} {c : Int} : ∀ {n : Nat}, (∀ k, k < n → 0 ≤ f k ∧ f k ≤ c) → 0 ≤ si f n ∧ si f n ≤ c * (n : Int)
  | 0, _ => ⟨Int.le_refl 0, by rw [Int.natCast_zero, Int.mul_zero]; exact Int.le_refl 0⟩
  | n + 1, h => by
    have ih := si_rng (n := n) (fun k hk => h k (by omega))
    have h1 := h n (by omega)
    have e1 : ((n + 1 : Nat) : Int) = (n : Int) + 1 := by omega
    have e : c * ((n + 1 : Nat) : Int) = c * (n : Int) + c := by rw [e1, Int.mul_add, Int.mul_one]
    show 0 ≤ si f n + f n ∧ si f n + f n ≤ _
    rw [e]
    omega
theorem si_zero {f : Nat → Int} : ∀ {n : Nat}, (∀ k, k < n → f k = 0) → si f n = 0
  | 0, _ => rfl
  | n + 1, h => by
    show si f n + f n = 0
    rw [si_zero (fun k hk => h k (by omega)), h n (by omega)]
    rfl
theorem ib_nI {j n : Nat} (h : j < n) (hn : n < 2 ^ 31) : inb (nI j) n = true := inb_iff.mpr ⟨by rw [nI_toInt (by omega)]; omega, by rw [nI_toInt (by omega)]; omega⟩
theorem pa_at (s : MS) (i k : Nat) (v : Int32) : (pa s i k v).2 i k = v := by
  show (if i = i then upd (s.2 i) k v else s.2 i) k = v
  rw [if_pos rfl, pk_us]
-- ===== the hoist: minutes left =====
def lf (s : MS) (d : Int32) : Nat → Int32
  | 0 => s.1 14
  | j + 1 => if s.2 24 j = d then lf s d j - s.2 23 j else lf s d j - 0
theorem lf_ti {s : MS} {d : Int32} (hd : 1 ≤ (s.1 14).toInt ∧ (s.1 14).toInt ≤ 600) : ∀ {k : Nat}, k ≤ 40 → (∀ j, j < k → 1 ≤ (s.2 23 j).toInt ∧ (s.2 23 j).toInt ≤ 600) → (lf s d k).toInt = (s.1 14).toInt - si (fun j => if s.2 24 j = d then (s.2 23 j).toInt else 0) k
  | 0, _, _ => by
    show (s.1 14).toInt = (s.1 14).toInt - 0
    omega
  | k + 1, hk, hm => by
    have ih := lf_ti (d := d) hd (k := k) (by omega) (fun j hj => hm j (by omega))
    have h1 := hm k (by omega)
    have hr := si_rng (f := fun j => if s.2 24 j = d then (s.2 23 j).toInt else 0) (c := 600) (n := k) (fun j hj => by
      have h2 := hm j (by omega)
      show 0 ≤ (if s.2 24 j = d then (s.2 23 j).toInt else 0) ∧ (if s.2 24 j = d then (s.2 23 j).toInt else 0) ≤ 600
      by_cases c : s.2 24 j = d
      · rw [if_pos c]; omega
      · rw [if_neg c]; omega)
    show (if s.2 24 k = d then lf s d k - s.2 23 k else lf s d k - 0).toInt = (s.1 14).toInt - (si (fun j => if s.2 24 j = d then (s.2 23 j).toInt else 0) k + (if s.2 24 k = d then (s.2 23 k).toInt else 0))
    by_cases c : s.2 24 k = d
    · rw [if_pos c, if_pos c, fb_subI (by omega) (by omega), ih]
      omega
    · rw [if_neg c, if_neg c, fb_subI (by show _ ≤ _ - (0 : Int); omega) (by show _ - (0 : Int) < _; omega), ih]
      show _ - (0 : Int) = _
      omega
theorem left_eq {s : MS} {d : Int32} {k : Nat} (hk : k ≤ 40) : f_Md_left d (nI k) s = some (lf s d k) := by
  unfold f_Md_left
  rw [bnd_eq]
  have h0 : ((s.1 14, (0 : Int32)) : Int32 × Int32) = (fun j : Nat => ((lf s d j, nI j) : Int32 × Int32)) 0 := congrArg (fun z => ((s.1 14, z) : Int32 × Int32)) nI_0.symm
  rw [h0]
  refine loop_up (fun j : Nat => ((lf s d j, nI j) : Int32 × Int32)) k _ (fun j hj => ?_) ?_
  · show Md_left_l8 d (nI k) s (lf s d j) (nI j) = some (.inl ((if s.2 24 j = d then lf s d j - s.2 23 j else lf s d j - 0), nI (j + 1)))
    unfold Md_left_l8
    have n1 : ¬ nI k ≤ nI j := nI_ge hj (by omega)
    have hi : inb (nI j) 40 = true := ib_nI (by omega) (by omega)
    rw [if_neg n1, chk_t hi, bnd_eq, nI_clamp (by omega)]
    by_cases c : s.2 24 j = d
    · rw [if_pos c, if_pos c, chk_t hi, bnd_eq, bnd_eq, bnd_eq, nI_1]
    · rw [if_neg c, if_neg c, bnd_eq, bnd_eq, nI_1]
  · show Md_left_l8 d (nI k) s (lf s d k) (nI k) = _
    unfold Md_left_l8
    rw [if_pos (Int32.le_refl _)]
    rfl
/-- day d can take lift k, with `g` minutes gone on day `l` -/
def GD (m : MS) (k l : Nat) (g : Int) (d : Nat) : Prop := m.2 20 d = 0 ∧ (m.1 12).toInt ≤ (lvl m d).toInt ∧ (m.2 23 k).toInt ≤ (m.1 14).toInt - (if d = l then g else 0)
theorem xd_step {x m : MS} (hL : JL x m) (hC : JC x m) {k l d : Nat} {g : Int32} (hk : (k : Int) < (m.1 15).toInt) (hg : 0 ≤ g.toInt ∧ g.toInt ≤ 30000) (hl : l < 400) (hd : d < 400) : (GD m k l g.toInt d → Hoist_firstDay_l40 (nI k) (nI l) g x (nI d) = some (.inr (nI d))) ∧ (¬ GD m k l g.toInt d → Hoist_firstDay_l40 (nI k) (nI l) g x (nI d) = some (.inl (nI (d + 1)))) := by
  obtain ⟨q1, q2, q3, q4, q5, q6, q7, q8, q9, q10, q11, q12⟩ := id hC
  have q82 := q8.2
  have hi : inb (nI k) 40 = true := ib_nI (by omega) (by omega)
  have h4 : inb (nI d) 400 = true := ib_nI (by omega) (by omega)
  have n4 : ¬ (400 : Int32) ≤ nI d := by rw [fa_le, nI_toInt (by omega)]; show ¬ (400 : Int) ≤ (d : Int); omega
  have key : ∀ t : Int32, t.toInt = (if d = l then g.toInt else 0) → (GD m k l g.toInt d → Hoist_firstDay_j63 (nI k) (nI l) g (nI d) t (x.1 13) x = some (.inr (nI d))) ∧ (¬ GD m k l g.toInt d → Hoist_firstDay_j63 (nI k) (nI l) g (nI d) t (x.1 13) x = some (.inl (nI (d + 1)))) := by
    intro t ht
    have htr : 0 ≤ t.toInt ∧ t.toInt ≤ 30000 := by
      rw [ht]
      by_cases c : d = l
      · rw [if_pos c]; exact hg
      · rw [if_neg c]; omega
    have hs : (m.1 14 - t).toInt = (m.1 14).toInt - t.toInt := fb_subI (by omega) (by omega)
    unfold GD Hoist_firstDay_j63
    rw [← ht, bnd_eq, chk_t hi, bnd_eq, nI_clamp (n := k) (by omega), q7, q3]
    by_cases c1 : m.1 14 - t < m.2 23 k
    · rw [if_pos c1, bnd_eq, nI_1]
      rw [fa_lt, hs] at c1
      exact ⟨fun q => absurd q.2.2 (by omega), fun _ => rfl⟩
    · rw [if_neg c1, chk_t h4, bnd_eq, nI_clamp (n := d) (by omega), q4]
      rw [fa_lt, hs] at c1
      by_cases c2 : m.2 20 d = 0
      · rw [if_pos c2, on_eq hL (by omega), Option.bind_some, q1]
        by_cases c3 : lvl m d < m.1 12
        · rw [if_pos c3, bnd_eq, nI_1]
          rw [fa_lt] at c3
          exact ⟨fun q => absurd q.2.1 (by omega), fun _ => rfl⟩
        · rw [if_neg c3]
          rw [fa_lt] at c3
          exact ⟨fun _ => rfl, fun q => absurd ⟨c2, by omega, by omega⟩ q⟩
      · rw [if_neg c2, bnd_eq, nI_1]
        exact ⟨fun q => absurd q.1 c2, fun _ => rfl⟩
  unfold Hoist_firstDay_l40
  rw [if_neg n4]
  by_cases e : d = l
  · rw [if_pos (by rw [e] : nI d = nI l)]
    exact key g (by rw [if_pos e])
  · rw [if_neg (fun q => e ((nI_eq (by omega) (by omega)).mp q) : ¬ nI d = nI l)]
    exact key 0 (by rw [if_neg e]; rfl)
theorem md_step {x m : MS} (hL : JL x m) (hC : JC x m) {i : Int32} {k l d : Nat} {g : Int32} (hk : (k : Int) < (m.1 15).toInt) (hl : l < 400) (hd : d < 400) (hg : si (fun j => if m.2 24 j = nI d then (m.2 23 j).toInt else 0) k = if d = l then g.toInt else 0) : (GD m k l g.toInt d → Md_lifted_l47 i (nI l) (nI k) m (nI d) = xit (Md_lifted_j106 i (nI l) (nI k) (nI d) m)) ∧ (¬ GD m k l g.toInt d → Md_lifted_l47 i (nI l) (nI k) m (nI d) = some (.inl (nI (d + 1)))) := by
  obtain ⟨q1, q2, q3, q4, q5, q6, q7, q8, q9, q10, q11, q12⟩ := id hC
  obtain ⟨l1, l2, l3, l4, l5⟩ := id hL
  have q82 := q8.2
  have hi : inb (nI k) 40 = true := ib_nI (by omega) (by omega)
  have h4 : inb (nI d) 400 = true := ib_nI (by omega) (by omega)
  have n4 : ¬ (400 : Int32) ≤ nI d := by rw [fa_le, nI_toInt (by omega)]; show ¬ (400 : Int) ≤ (d : Int); omega
  have hc := cl_ti (x := m.1 0) (by omega)
  have hn : m.1 0 = nI (m.1 0).toNatClampNeg := cnt_nI (by omega)
  have hm : d % (m.1 0).toNatClampNeg < (m.1 0).toNatClampNeg := Nat.mod_lt _ (by omega)
  have hr : nI d - nI d / m.1 0 * m.1 0 = nI (d % (m.1 0).toNatClampNeg) := by
    conv => lhs; rw [hn]
    exact pk_rem (by omega) (by omega) (by omega)
  have h3 : decide (¬ m.1 0 = 0) = true := decide_eq_true (by rw [fa_eq]; show ¬ _ = (0 : Int); omega)
  have hj : inb (nI (d % (m.1 0).toNatClampNeg)) 30 = true := ib_nI (by omega) (by omega)
  have hq : (nI (d % (m.1 0).toNatClampNeg)).toNatClampNeg = d % (m.1 0).toNatClampNeg := nI_clamp (by omega)
  have hlf := lf_ti (s := m) (d := nI d) q11 (k := k) (by omega) (fun j hj => (q12 j (by omega)).2.2.2.2.2)
  rw [hg] at hlf
  unfold GD Md_lifted_l47
  rw [if_neg n4, chk_t h4, bnd_eq, nI_clamp (n := d) (by omega)]
  by_cases c2 : m.2 20 d = 0
  · rw [if_pos c2, chk_t h3, hr, chk_t hj, bnd_eq, hq]
    by_cases c3 : lvl m d < m.1 12
    · have c3' : m.2 0 (d % (m.1 0).toNatClampNeg) < m.1 12 := c3
      rw [if_pos c3', bnd_eq, nI_1]
      rw [fa_lt] at c3
      exact ⟨fun q => absurd q.2.1 (by omega), fun _ => rfl⟩
    · have c3' : ¬ m.2 0 (d % (m.1 0).toNatClampNeg) < m.1 12 := c3
      rw [if_neg c3', left_eq (by omega), Option.bind_some, chk_t hi, bnd_eq, nI_clamp (n := k) (by omega)]
      rw [fa_lt] at c3
      by_cases c1 : m.2 23 k ≤ lf m (nI d) k
      · rw [if_pos c1]
        rw [fa_le, hlf] at c1
        exact ⟨fun _ => rfl, fun q => absurd ⟨c2, by omega, c1⟩ q⟩
      · rw [if_neg c1, bnd_eq, nI_1]
        rw [fa_le, hlf] at c1
        exact ⟨fun q => absurd q.2.2 c1, fun _ => rfl⟩
  · rw [if_neg c2, bnd_eq, nI_1]
    exact ⟨fun q => absurd q.1 c2, fun _ => rfl⟩
/-- what the reference notes of lift k -/
def lN' (m : MS) (l k : Nat) (r : Int32) : (Int32 × Int32 × MS) ⊕ (Int32 × MS) := .inl ((if r < 0 then nI l else r), nI (k + 1), pa m 24 k r)
theorem j143_eq {m : MS} {i r : Int32} {k l : Nat} (hk : k < 40) : Md_lifted_j143 i (nI l) (nI k) r (nI k) m = some (lN' m l k r) := by
  have hi : inb (nI k) 40 = true := ib_nI (by omega) (by omega)
  unfold Md_lifted_j143 lN'
  rw [chk_t hi, bnd_eq, chk_t hi, bnd_eq, nI_clamp (n := k) (by omega), pa_at]
  by_cases c : r < 0
  · rw [if_pos c, if_pos c, bnd_eq, nI_1]
  · rw [if_neg c, if_neg c, chk_t hi, bnd_eq, bnd_eq, nI_1]
theorem m1_neg : ((-1 : Int32) < 0) := by decide
theorem j106_eq {x m : MS} (hO : JO x m) (hC : JC x m) {i : Int32} {k l d : Nat} (hk : (k : Int) < (m.1 15).toInt) (hd : d ≤ 400) : (d = 400 ∨ x.1 12 < x.2 28 k → Md_lifted_j106 i (nI l) (nI k) (nI d) m = some (lN' m l k (-1))) ∧ (¬ (d = 400 ∨ x.1 12 < x.2 28 k) → Md_lifted_j106 i (nI l) (nI k) (nI d) m = some (lN' m l k (nI d))) := by
  obtain ⟨q1, q2, q3, q4, q5, q6, q7, q8, q9, q10, q11, q12⟩ := id hC
  have q82 := q8.2
  have o62 := hO.2.2.2.2.2.1.2
  have hi : inb (nI k) 40 = true := ib_nI (by omega) (by omega)
  have hk40 : k < 40 := by omega
  obtain ⟨p1, p2, p3, p4, p5, p6, p7⟩ := q12 k hk
  unfold Md_lifted_j106
  by_cases e : d = 400
  · have n4 : (400 : Int32) ≤ nI d := by rw [e]; decide
    rw [if_pos n4]
    refine ⟨fun _ => ?_, fun q => absurd (Or.inl e) q⟩
    unfold Md_lifted_j142
    exact j143_eq hk40
  · have n4 : ¬ (400 : Int32) ≤ nI d := by rw [fa_le, nI_toInt (by omega)]; show ¬ (400 : Int) ≤ (d : Int); omega
    rw [if_neg n4, chk_t hi, bnd_eq, nI_clamp (n := k) (by omega), chk_t (inb_iff.mpr ⟨p1, by show _ < (30 : Int); omega⟩), bnd_eq, ← p3, ← q2]
    by_cases c : x.1 12 < x.2 28 k
    · rw [if_pos c]
      refine ⟨fun _ => ?_, fun q => absurd (Or.inr c) q⟩
      unfold Md_lifted_j142
      exact j143_eq hk40
    · rw [if_neg c]
      exact ⟨fun q => absurd q (fun z => z.elim e c), fun _ => j143_eq hk40⟩
theorem lf_step {x m : MS} (h : Inv x m) {i k l : Nat} {g : Int32} (hk : (k : Int) < (m.1 15).toInt) (hki : k ≤ i) (hi : i < 40) (hl : l < 400) (hg : g.toInt = si (fun j => if m.2 24 j = nI l then (m.2 23 j).toInt else 0) k) (hL : ∀ j, j < k → m.2 24 j = -1 ∨ ∃ d, d ≤ l ∧ m.2 24 j = nI d) :
    ∃ r : Int32, f_Hoist_firstDay (nI k) (nI l) g x = some r ∧ Md_lifted_l20 (nI i) (nI l) (nI k) m = some (lN' m l k r) ∧ (r = -1 ∨ ∃ d, l ≤ d ∧ d < 400 ∧ r = nI d) := by
  obtain ⟨hLv, hB, hO, hH, hS, hT, hK, hC, hW, hP, hR, hU⟩ := id h
  obtain ⟨q1, q2, q3, q4, q5, q6, q7, q8, q9, q10, q11, q12⟩ := id hC
  have q82 := q8.2
  obtain ⟨p1, p2, p3, p4, p5, p6, p7⟩ := q12 k hk
  have hik : inb (nI k) 40 = true := ib_nI (by omega) (by omega)
  have hgr : 0 ≤ g.toInt ∧ g.toInt ≤ 30000 := by
    have hr := si_rng (f := fun j => if m.2 24 j = nI l then (m.2 23 j).toInt else 0) (c := 600) (n := k) (fun j hj => by
      have h2 := (q12 j (by omega)).2.2.2.2.2
      show 0 ≤ (if m.2 24 j = nI l then (m.2 23 j).toInt else 0) ∧ (if m.2 24 j = nI l then (m.2 23 j).toInt else 0) ≤ 600
      by_cases c : m.2 24 j = nI l
      · rw [if_pos c]; omega
      · rw [if_neg c]; omega)
    omega
  have hgd : ∀ d, l ≤ d → d < 400 → si (fun j => if m.2 24 j = nI d then (m.2 23 j).toInt else 0) k = if d = l then g.toInt else 0 := by
    intro d h1 h2
    by_cases e : d = l
    · rw [if_pos e, e, hg]
    · rw [if_neg e]
      refine si_zero (fun j hj => ?_)
      show (if m.2 24 j = nI d then (m.2 23 j).toInt else 0) = 0
      refine if_neg (fun q => ?_)
      rcases hL j hj with z | ⟨d2, z1, z2⟩
      · rw [z, fa_eq, nI_toInt (by omega)] at q
        have q : (-1 : Int) = (d : Int) := q
        omega
      · rw [z2] at q
        have := (nI_eq (by omega) (by omega)).mp q
        omega
  have hf := cnt_nI p4
  have hfc := cl_ti p4
  obtain ⟨fk, hfk⟩ : ∃ n, n = (m.2 22 k).toNatClampNeg := ⟨_, rfl⟩
  rw [← hfk] at hf hfc
  obtain ⟨a, ha⟩ : ∃ a, a = if fk < l then l else fk := ⟨_, rfl⟩
  have hal : l ≤ a ∧ a < 400 := by
    rw [ha]
    by_cases c : fk < l
    · rw [if_pos c]; omega
    · rw [if_neg c]; omega
  have hax : (if nI fk < nI l then nI l else nI fk) = nI a := by
    rw [ha]
    by_cases c : fk < l
    · rw [if_pos c, if_pos ((nI_ltI (by omega) (by omega)).mpr c)]
    · rw [if_neg c, if_neg (fun q => c ((nI_ltI (by omega) (by omega)).mp q))]
  have hm : Md_lifted_l20 (nI i) (nI l) (nI k) m = loop (fun z => Md_lifted_l47 (nI i) (nI l) (nI k) m z) (nI a) := by
    have n1 : ¬ nI i < nI k := nI_nlt hki (by omega)
    unfold Md_lifted_l20
    rw [if_neg n1, chk_t hik, bnd_eq, nI_clamp (n := k) (by omega), hf, ← hax]
    by_cases c : fk < l
    · rw [if_neg (nI_ge c (by omega)), if_pos ((nI_ltI (by omega) (by omega)).mpr c)]
    · rw [if_pos (nI_le (by omega) (by omega) : nI l ≤ nI fk), chk_t hik, bnd_eq, if_neg (fun q => c ((nI_ltI (by omega) (by omega)).mp q))]
  have j4 := j106_eq hO hC (i := nI i) (l := l) hk (Nat.le_refl 400)
  have mloop : ∀ R : Nat → Int32, (∀ d, a ≤ d → d < 400 → GD m k l g.toInt d → Md_lifted_j106 (nI i) (nI l) (nI k) (nI d) m = some (lN' m l k (R d))) → ((∀ d, a ≤ d → d < 400 → ¬ GD m k l g.toInt d) ∧ loop (fun z => Md_lifted_l47 (nI i) (nI l) (nI k) m z) (nI a) = some (lN' m l k (-1))) ∨ ∃ d, a ≤ d ∧ d < 400 ∧ GD m k l g.toInt d ∧ (∀ j, a ≤ j → j < d → ¬ GD m k l g.toInt j) ∧ loop (fun z => Md_lifted_l47 (nI i) (nI l) (nI k) m z) (nI a) = some (lN' m l k (R d)) := by
    intro R hR
    refine loop_first (fun d => GD m k l g.toInt d) (fun d => lN' m l k (R d)) (lN' m l k (-1)) 400 ?_ (400 - a) a (by omega) (fun d h1 h2 c => ?_) (fun d h1 h2 c => ?_)
    · show Md_lifted_l47 (nI i) (nI l) (nI k) m (nI 400) = _
      unfold Md_lifted_l47
      rw [if_pos (by decide : (400 : Int32) ≤ nI 400), j4.1 (Or.inl rfl)]
      rfl
    · exact (md_step hLv hC hk hl h2 (hgd d (by omega) h2)).2 c
    · show Md_lifted_l47 (nI i) (nI l) (nI k) m (nI d) = _
      rw [(md_step hLv hC hk hl h2 (hgd d (by omega) h2)).1 c, hR d h1 h2 c]
      rfl
  rw [hm]
  unfold f_Hoist_firstDay
  rw [chk_t hik, bnd_eq, nI_clamp (n := k) (by omega)]
  by_cases c1 : x.1 12 < x.2 28 k
  · rw [if_pos c1]
    refine ⟨-1, rfl, ?_, Or.inl rfl⟩
    rcases mloop (fun _ => -1) (fun d h1 h2 _ => (j106_eq hO hC hk (by omega)).1 (Or.inr c1)) with ⟨-, z⟩ | ⟨d, -, -, -, -, z⟩
    · exact z
    · exact z
  · rw [if_neg c1, chk_t hik, bnd_eq, q7, q3]
    have hm2 := mloop (fun d => nI d) (fun d h1 h2 _ => (j106_eq hO hC hk (by omega)).2 (fun q => q.elim (by omega) c1))
    by_cases c2 : m.2 23 k ≤ m.1 14
    · rw [if_pos c2, chk_t hik, bnd_eq, bnd_eq, q6, hf, hax]
      rcases loop_first (f := fun z => Hoist_firstDay_l40 (nI k) (nI l) g x z) (fun d => GD m k l g.toInt d) (fun d => nI d) (-1) 400 (by
          show Hoist_firstDay_l40 (nI k) (nI l) g x (nI 400) = _
          unfold Hoist_firstDay_l40
          rw [if_pos (by decide : (400 : Int32) ≤ nI 400)]
          rfl) (400 - a) a (by omega) (fun d h1 h2 c => (xd_step hLv hC hk hgr hl h2).2 c) (fun d h1 h2 c => (xd_step hLv hC hk hgr hl h2).1 c) with ⟨z1, z2⟩ | ⟨d, z1, z2, z3, z4, z5⟩
      · rcases hm2 with ⟨-, w⟩ | ⟨d, w1, w2, w3, -, -⟩
        · exact ⟨-1, z2, w, Or.inl rfl⟩
        · exact absurd w3 (z1 d w1 w2)
      · rcases hm2 with ⟨w, -⟩ | ⟨d2, w1, w2, w3, w4, w5⟩
        · exact absurd z3 (w d z1 z2)
        · have e : d2 = d := by
            rcases Nat.lt_trichotomy d d2 with q | q | q
            · exact absurd z3 (w4 d z1 q)
            · exact q.symm
            · exact absurd w3 (z4 d2 w1 q)
          rw [e] at w5
          exact ⟨nI d, z5, w5, Or.inr ⟨d, by omega, z2, rfl⟩⟩
    · rw [if_neg c2]
      refine ⟨-1, rfl, ?_, Or.inl rfl⟩
      rcases hm2 with ⟨-, w⟩ | ⟨d, w1, w2, w3, -, -⟩
      · exact w
      · exfalso
        rw [fa_le] at c2
        have w4 := w3.2.2
        by_cases e : d = l
        · rw [if_pos e] at w4; omega
        · rw [if_neg e] at w4; omega
theorem st_lifted : St_lifted Inv := by
  intro a1 sx sm h
  obtain ⟨hL, hB, hO, hH, hS, hT, hK, hC, hW, hP, hR, hU⟩ := id h
  obtain ⟨q1, q2, q3, q4, q5, q6, q7, q8, q9, q10, q11, q12⟩ := id hC
  have q82 := q8.2
  unfold f_Hb_lifted f_Hoist_dayOf f_Md_lifted
  by_cases c1 : 0 ≤ a1.toInt ∧ a1.toInt < (sm.1 15).toInt
  · rw [inc_t q8 c1, Option.bind_some, if10, if_neg (by rw [fa_lt]; show ¬ a1.toInt < 0; omega : ¬ a1 < 0), if_pos (by rw [fa_lt, q5]; exact c1.2 : a1 < sx.1 10)]
    have ei := cnt_nI c1.1
    have ki := cl_ti c1.1
    obtain ⟨i, fi⟩ : ∃ n, n = a1.toNatClampNeg := ⟨_, rfl⟩
    rw [← fi] at ei ki
    rw [ei]
    have hi40 : i < 40 := by omega
    have main := loop_two (f := fun z => Hoist_dayOf_l25 (nI i) sx z.1 z.2.1 z.2.2.1 z.2.2.2) (g := fun z => Md_lifted_l20 (nI i) z.1 z.2.1 z.2.2)
      (fun k X Y => ∃ l : Nat, l < 400 ∧ X.1 = nI l ∧ X.2.2.2 = nI k ∧ Y.1 = nI l ∧ Y.2.1 = nI k ∧ Inv sx Y.2.2 ∧ Y.2.2.1 15 = sm.1 15 ∧ X.2.1.toInt = si (fun j => if Y.2.2.2 24 j = nI l then (Y.2.2.2 23 j).toInt else 0) k ∧ (∀ j, j < k → Y.2.2.2 24 j = -1 ∨ ∃ d, d ≤ l ∧ Y.2.2.2 24 j = nI d) ∧ (∀ j, k = j + 1 → X.2.2.1 = Y.2.2.2 24 j))
      (fun r q => q.1 = r ∧ Inv sx q.2) (i + 1) (by
        rintro k ⟨x3, x4, x5, x6⟩ ⟨y2, y3, s⟩ hk ⟨l, g1, g2, g3, g4, g5, g6, g7, g8, g9, g10⟩
        have g2 : x3 = nI l := g2
        have g3 : x6 = nI k := g3
        have g4 : y2 = nI l := g4
        have g5 : y3 = nI k := g5
        have g6 : Inv sx s := g6
        have g7 : s.1 15 = sm.1 15 := g7
        have g8 : x4.toInt = si (fun j => if s.2 24 j = nI l then (s.2 23 j).toInt else 0) k := g8
        have g9 : ∀ j, j < k → s.2 24 j = -1 ∨ ∃ d, d ≤ l ∧ s.2 24 j = nI d := g9
        have hC2 := g6.2.2.2.2.2.2.2.1
        have hks : (k : Int) < (s.1 15).toInt := by rw [g7]; omega
        obtain ⟨r, r1, r2, r3⟩ := lf_step g6 (i := i) (k := k) (l := l) (g := x4) hks (by omega) hi40 g1 g8 g9
        have n1 : ¬ nI i < nI k := nI_nlt (by omega) (by omega)
        have hik : inb (nI k) 40 = true := ib_nI (by omega) (by omega)
        have hmk := (hC2.2.2.2.2.2.2.2.2.2.2.2 k hks).2.2.2.2.2
        have hgr := si_rng (f := fun j => if s.2 24 j = nI l then (s.2 23 j).toInt else 0) (c := 600) (n := k) (fun j hj => by
          have h2 := (hC2.2.2.2.2.2.2.2.2.2.2.2 j (by omega)).2.2.2.2.2
          show 0 ≤ (if s.2 24 j = nI l then (s.2 23 j).toInt else 0) ∧ (if s.2 24 j = nI l then (s.2 23 j).toInt else 0) ≤ 600
          by_cases c : s.2 24 j = nI l
          · rw [if_pos c]; omega
          · rw [if_neg c]; omega)
        have hup : ∀ d : Int32, si (fun j => if upd (s.2 24) k r j = d then (s.2 23 j).toInt else 0) (k + 1) = si (fun j => if s.2 24 j = d then (s.2 23 j).toInt else 0) k + (if r = d then (s.2 23 k).toInt else 0) := by
          intro d
          show si (fun j => if upd (s.2 24) k r j = d then (s.2 23 j).toInt else 0) k + (if upd (s.2 24) k r k = d then (s.2 23 k).toInt else 0) = _
          rw [pk_us, si_cong (g := fun j => if s.2 24 j = d then (s.2 23 j).toInt else 0) (fun j hj => by
            show (if upd (s.2 24) k r j = d then (s.2 23 j).toInt else 0) = _
            rw [pk_un (by omega)])]
        have hinv : Inv sx (pa s 24 k r) := g6
        show ∃ s' t', Hoist_dayOf_l25 (nI i) sx x3 x4 x5 x6 = some (.inl s') ∧ Md_lifted_l20 (nI i) y2 y3 s = some (.inl t') ∧ _
        rw [g2, g3, g4, g5]
        unfold Hoist_dayOf_l25
        rw [if_neg n1, r1, Option.bind_some, r2]
        rcases r3 with e | ⟨d, d1, d2, d3⟩
        · rw [if_pos e, bnd_eq, nI_1]
          refine ⟨_, _, rfl, rfl, l, g1, rfl, rfl, ?_, rfl, hinv, g7, ?_, ?_, ?_⟩
          · show (if r < 0 then nI l else r) = nI l
            rw [e, if_pos m1_neg]
          · show x4.toInt = si (fun j => if upd (s.2 24) k r j = nI l then (s.2 23 j).toInt else 0) (k + 1)
            rw [hup, g8, e, if_neg (fun q => by
              rw [fa_eq, nI_toInt (by omega)] at q
              have q : (-1 : Int) = (l : Int) := q
              omega)]
            omega
          · intro j hj
            show upd (s.2 24) k r j = -1 ∨ ∃ d, d ≤ l ∧ upd (s.2 24) k r j = nI d
            by_cases ej : j = k
            · rw [ej, pk_us]; exact Or.inl e
            · rw [pk_un ej]; exact g9 j (by omega)
          · intro j hj
            have hj : j = k := by omega
            show r = upd (s.2 24) k r j
            rw [hj, pk_us]
        · have nr : ¬ r = -1 := fun q => by
            rw [d3, fa_eq, nI_toInt (by omega)] at q
            have q : (d : Int) = (-1 : Int) := q
            omega
          have nr2 : ¬ r < 0 := by rw [d3]; exact nI_pos (by omega)
          have hx30 : sx.2 30 = s.2 23 := hC2.2.2.2.2.2.2.1
          rw [if_neg nr, chk_t hik, bnd_eq, nI_clamp (n := k) (by omega), hx30]
          have rest : ∀ v : Int32, v.toInt = (s.2 23 k).toInt + (if d = l then x4.toInt else 0) → ∃ l' : Nat, l' < 400 ∧ r = nI l' ∧ nI (k + 1) = nI (k + 1) ∧ (if r < 0 then nI l else r) = nI l' ∧ nI (k + 1) = nI (k + 1) ∧ Inv sx (pa s 24 k r) ∧ s.1 15 = sm.1 15 ∧ v.toInt = si (fun j => if upd (s.2 24) k r j = nI l' then (s.2 23 j).toInt else 0) (k + 1) ∧ (∀ j, j < k + 1 → upd (s.2 24) k r j = -1 ∨ ∃ d, d ≤ l' ∧ upd (s.2 24) k r j = nI d) ∧ (∀ j, k + 1 = j + 1 → r = upd (s.2 24) k r j) := by
            intro v hv
            refine ⟨d, d2, d3, rfl, by rw [if_neg nr2, d3], rfl, hinv, g7, ?_, ?_, ?_⟩
            · rw [hup, d3, if_pos rfl, hv]
              by_cases e : d = l
              · rw [if_pos e, g8, e]; omega
              · rw [if_neg e, si_zero (fun j hj => by
                  show (if s.2 24 j = nI d then (s.2 23 j).toInt else 0) = 0
                  refine if_neg (fun q => ?_)
                  rcases g9 j hj with z | ⟨d', z1, z2⟩
                  · rw [z, fa_eq, nI_toInt (by omega)] at q
                    have q : (-1 : Int) = (d : Int) := q
                    omega
                  · rw [z2] at q
                    have := (nI_eq (by omega) (by omega)).mp q
                    omega)]
                omega
            · intro j hj
              by_cases ej : j = k
              · rw [ej, pk_us]; exact Or.inr ⟨d, Nat.le_refl d, d3⟩
              · rw [pk_un ej]
                rcases g9 j (by omega) with z | ⟨d', z1, z2⟩
                · exact Or.inl z
                · exact Or.inr ⟨d', by omega, z2⟩
            · intro j hj
              have hj : j = k := by omega
              rw [hj, pk_us]
          by_cases e : d = l
          · rw [if_pos (by rw [d3, e] : r = nI l), bnd_eq, bnd_eq, nI_1]
            refine ⟨_, _, rfl, rfl, ?_⟩
            exact rest (s.2 23 k + x4) (by rw [if_pos e, fb_addI (by omega) (by omega)])
          · rw [if_neg (fun q => e ((nI_eq (by omega) (by omega)).mp (d3.symm.trans q)) : ¬ r = nI l), bnd_eq, bnd_eq, nI_1]
            refine ⟨_, _, rfl, rfl, ?_⟩
            exact rest (s.2 23 k + 0) (by rw [if_neg e, fb_addI (by show _ ≤ _ + (0 : Int); omega) (by show _ + (0 : Int) < _; omega)]; rfl)) (by
        rintro ⟨x3, x4, x5, x6⟩ ⟨y2, y3, s⟩ ⟨l, g1, g2, g3, g4, g5, g6, g7, g8, g9, g10⟩
        have g3 : x6 = nI (i + 1) := g3
        have g5 : y3 = nI (i + 1) := g5
        have g10 : x5 = s.2 24 i := g10 i rfl
        have n1 : nI i < nI (i + 1) := nI_lt (by omega) (by omega)
        refine ⟨x5, (s.2 24 i, s), ?_, ?_, g10.symm, g6⟩
        · show Hoist_dayOf_l25 (nI i) sx x3 x4 x5 x6 = _
          unfold Hoist_dayOf_l25
          rw [g3, if_pos n1]
          rfl
        · show Md_lifted_l20 (nI i) y2 y3 s = _
          unfold Md_lifted_l20
          rw [g5, if_pos n1, chk_t (ib_nI (by omega) (by omega)), bnd_eq, nI_clamp (n := i) (by omega)]
          rfl)
    obtain ⟨r, q, h1, h2, h3, h4⟩ := main (i + 1) 0 ((0 : Int32), (0 : Int32), (-1 : Int32), (0 : Int32)) ((0 : Int32), (0 : Int32), sm) (by omega) ⟨0, by omega, nI_0.symm, nI_0.symm, nI_0.symm, nI_0.symm, h, rfl, rfl, fun j hj => absurd hj (by omega), fun j hj => absurd hj (by omega)⟩
    exact ⟨r, q.2, by rw [h1]; rfl, by rw [h2, ← h3], h4⟩
  · rw [inc_f q8 c1, Option.bind_some, if00]
    by_cases n1 : a1 < 0
    · rw [if_pos n1]
      exact ⟨-1, sm, rfl, rfl, h⟩
    · rw [if_neg n1, if_neg (by rw [fa_lt, q5]; rw [fa_lt] at n1; have n1 : ¬ a1.toInt < 0 := n1; omega : ¬ a1 < sx.1 10)]
      exact ⟨-1, sm, rfl, rfl, h⟩
