def fb_ct (p : Nat → Bool) : Nat → Nat
  | 0 => 0
  | n + 1 => fb_ct p n + (if p n then 1 else 0)
theorem fb_ct_succ (p : Nat → Bool) (n : Nat) : fb_ct p (n + 1) = fb_ct p n + (if p n then 1 else 0) := rfl
theorem fb_ct_le (p : Nat → Bool) : ∀ n, fb_ct p n ≤ n
  | 0 => Nat.le_refl _
  | n + 1 => by
    have h := fb_ct_le p n
    rw [fb_ct_succ]
    split <;> omega
theorem fb_ct_step (p : Nat → Bool) (m : Nat) : ∀ n, fb_ct p m ≤ fb_ct p (m + n)
  | 0 => Nat.le_refl _
  | n + 1 => by
    have h := fb_ct_step p m n
    show fb_ct p m ≤ fb_ct p (m + n + 1)
    rw [fb_ct_succ]
    omega
theorem fb_ct_mono (p : Nat → Bool) {m n : Nat} (h : m ≤ n) : fb_ct p m ≤ fb_ct p n := by
  have := fb_ct_step p m (n - m)
  rwa [Nat.add_sub_cancel' h] at this
theorem fb_ct_cong {p q : Nat → Bool} : ∀ {n : Nat}, (∀ k, k < n → p k = q k) → fb_ct p n = fb_ct q n
  | 0, _ => rfl
  | n + 1, h => by
    rw [fb_ct_succ, fb_ct_succ, fb_ct_cong (fun k hk => h k (by omega)), h n (by omega)]
theorem fb_ct_sub {p q : Nat → Bool} : ∀ {n : Nat}, (∀ k, k < n → p k = true → q k = true) → fb_ct p n ≤ fb_ct q n
  | 0, _ => Nat.le_refl _
  | n + 1, h => by
    have h1 := fb_ct_sub (n := n) (p := p) (q := q) (fun k hk => h k (by omega))
    have h2 := h n (by omega)
    rw [fb_ct_succ, fb_ct_succ]
    cases hp : p n <;> cases hq : q n <;> simp_all <;> omega
theorem fb_ct_or {p q : Nat → Bool} : ∀ {n : Nat}, (∀ k, k < n → ¬ (p k = true ∧ q k = true)) → fb_ct (fun k => p k || q k) n = fb_ct p n + fb_ct q n
  | 0, _ => rfl
  | n + 1, h => by
    have h1 := fb_ct_or (n := n) (p := p) (q := q) (fun k hk => h k (by omega))
    have h2 := h n (by omega)
    rw [fb_ct_succ, fb_ct_succ, fb_ct_succ, h1]
    cases hp : p n <;> cases hq : q n <;> simp_all <;> omega
theorem fb_ct_not (p : Nat → Bool) : ∀ n, fb_ct p n + fb_ct (fun k => !p k) n = n
  | 0 => rfl
  | n + 1 => by
    have h := fb_ct_not p n
    rw [fb_ct_succ, fb_ct_succ]
    cases p n <;> simp <;> omega
theorem fb_ct_split (p : Nat → Bool) (m : Nat) : ∀ n, fb_ct p (m + n) = fb_ct p m + fb_ct (fun k => p (m + k)) n
  | 0 => rfl
  | n + 1 => by
    have h := fb_ct_split p m n
    show fb_ct p (m + n + 1) = _
    rw [fb_ct_succ, fb_ct_succ, h, Nat.add_assoc]
theorem fb_ct_zero {p : Nat → Bool} : ∀ {n : Nat}, fb_ct p n = 0 ↔ ∀ k, k < n → p k = false
  | 0 => ⟨fun _ k hk => absurd hk (Nat.not_lt_zero k), fun _ => rfl⟩
  | n + 1 => by
    have h := fb_ct_zero (p := p) (n := n)
    rw [fb_ct_succ]
    constructor
    · intro e k hk
      have e1 : fb_ct p n = 0 := by omega
      rcases Nat.lt_or_ge k n with q | q
      · exact h.mp e1 k q
      · have ek : k = n := by omega
        subst ek
        cases hp : p k
        · rfl
        · simp [hp] at e
    · intro a
      rw [h.mpr (fun k hk => a k (by omega)), a n (by omega)]
      rfl
theorem fb_ct_pos {p : Nat → Bool} {n : Nat} : 0 < fb_ct p n ↔ ∃ k, k < n ∧ p k = true := by
  constructor
  · intro h
    refine Classical.byContradiction fun hx => ?_
    have := fb_ct_zero.mpr (fun k hk => by
      cases hp : p k
      · rfl
      · exact absurd ⟨k, hk, hp⟩ hx : ∀ k, k < n → p k = false)
    omega
  · rintro ⟨k, hk, hp⟩
    rcases Nat.eq_zero_or_pos (fb_ct p n) with e | e
    · have := fb_ct_zero.mp e k hk
      rw [this] at hp
      cases hp
    · exact e
theorem fb_ct_all {p : Nat → Bool} {n : Nat} : fb_ct p n = n ↔ ∀ k, k < n → p k = true := by
  have h := fb_ct_not p n
  constructor
  · intro e k hk
    have z : fb_ct (fun k => !p k) n = 0 := by omega
    have := fb_ct_zero.mp z k hk
    cases hp : p k
    · simp [hp] at this
    · rfl
  · intro a
    have z : fb_ct (fun k => !p k) n = 0 := fb_ct_zero.mpr (fun k hk => by simp [a k hk])
    omega
theorem fb_holes : ∀ (m n : Nat) (f : Nat → Nat), (∀ i, i < n → f i < m) → (∀ i j, i < j → j < n → f i ≠ f j) → n ≤ m := by
  intro m
  induction m with
  | zero =>
    intro n f h1 _
    rcases Nat.eq_zero_or_pos n with h | h
    · omega
    · exact absurd (h1 0 h) (Nat.not_lt_zero _)
  | succ m ih =>
    intro n f h1 h2
    by_cases hx : ∃ i, i < n ∧ f i = m
    · obtain ⟨a, ha, hfa⟩ := hx
      have hg := ih (n - 1) (fun i => if i < a then f i else f (i + 1)) (by
        intro i hi
        by_cases q : i < a
        · simp only [if_pos q]
          have b1 := h1 i (by omega)
          have b2 := h2 i a q ha
          omega
        · simp only [if_neg q]
          have b1 := h1 (i + 1) (by omega)
          have b2 := h2 a (i + 1) (by omega) (by omega)
          omega) (by
        intro i j hij hj
        by_cases q : i < a
        · by_cases r : j < a
          · simp only [if_pos q, if_pos r]
            exact h2 i j hij (by omega)
          · simp only [if_pos q, if_neg r]
            exact h2 i (j + 1) (by omega) (by omega)
        · have r : ¬ j < a := by omega
          simp only [if_neg q, if_neg r]
          exact h2 (i + 1) (j + 1) (by omega) (by omega))
      omega
    · have hg := ih n f (fun i hi => by
        have b1 := h1 i hi
        have b2 : f i ≠ m := fun e => hx ⟨i, hi, e⟩
        omega) h2
      omega
theorem fb_onto {n : Nat} {f : Nat → Nat} (h : ∀ i, i < n → f i < n) (h2 : ∀ i j, i < j → j < n → f i ≠ f j) {y : Nat} (hy : y < n) : ∃ i, i < n ∧ f i = y := by
  refine Classical.byContradiction fun hx => ?_
  have hne : ∀ i, i < n → f i ≠ y := fun i hi e => hx ⟨i, hi, e⟩
  have := fb_holes (n - 1) n (fun i => if f i < y then f i else f i - 1) (by
    intro i hi
    have b1 := h i hi
    have b2 := hne i hi
    by_cases q : f i < y
    · simp only [if_pos q]; omega
    · simp only [if_neg q]; omega) (by
    intro i j hij hj
    have b1 := hne i (by omega)
    have b2 := hne j hj
    have b3 := h2 i j hij hj
    by_cases q : f i < y
    · by_cases r : f j < y
      · simp only [if_pos q, if_pos r]; exact b3
      · simp only [if_pos q, if_neg r]; omega
    · by_cases r : f j < y
      · simp only [if_neg q, if_pos r]; omega
      · simp only [if_neg q, if_neg r]; omega)
  omega
-- ===== who is away on a night =====
def Aw (m : MS) (b : Int32) (d : Nat) : Prop := ∃ k : Nat, (k : Int) < (m.1 3).toInt ∧ m.2 7 k = b ∧ (m.2 8 k).toInt ≤ (d : Int) ∧ (d : Int) < (m.2 9 k).toInt
theorem isAway_says {x m : MS} (hS : JS x m) (b : Int32) {d : Nat} (hd : d < 2 ^ 31) : Says (f_Md_isAway b (nI d) m) (Aw m b d) := by
  obtain ⟨s1, s2, -⟩ := id hS
  have s22 := s2.2
  have hc := cl_ti s2.1
  have hn : m.1 3 = nI (m.1 3).toNatClampNeg := cnt_nI s2.1
  have hdi : (nI d).toInt = (d : Int) := nI_toInt hd
  obtain ⟨n, hnn⟩ : ∃ n, n = (m.1 3).toNatClampNeg := ⟨_, rfl⟩
  rw [← hnn] at hc hn
  have key : ∀ k : Nat, k < n → ¬ m.1 3 ≤ nI k ∧ inb (nI k) 60 = true ∧ (nI k).toNatClampNeg = k := fun k hk => ⟨by rw [hn]; exact nI_ge hk (by omega), inb_iff.mpr ⟨by rw [nI_toInt (by omega)]; omega, by rw [nI_toInt (by omega)]; show _ < (60 : Int); omega⟩, nI_clamp (by omega)⟩
  have hl := loop_first (f := fun z => Md_isAway_l2 b (nI d) m z) (fun k => m.2 7 k = b ∧ (m.2 8 k).toInt ≤ (d : Int) ∧ (d : Int) < (m.2 9 k).toInt) (fun _ => (1 : Int32)) 0 n (by
      show Md_isAway_l2 b (nI d) m (nI n) = _
      unfold Md_isAway_l2
      rw [if_pos (by rw [hn]; exact Int32.le_refl _)]
      rfl) n 0 (by omega) (fun k _ hk c => by
      show Md_isAway_l2 b (nI d) m (nI k) = _
      obtain ⟨k1, k2, k3⟩ := key k hk
      unfold Md_isAway_l2
      rw [if_neg k1, chk_t k2, bnd_eq, k3]
      by_cases c1 : m.2 7 k = b
      · rw [if_pos c1, chk_t k2, bnd_eq]
        by_cases c2 : nI d < m.2 8 k
        · rw [if_pos c2, bnd_eq, nI_1]
        · rw [if_neg c2, chk_t k2, bnd_eq]
          have c3 : m.2 9 k ≤ nI d := by
            rw [fa_lt, hdi] at c2
            rw [fa_le, hdi]
            exact Classical.byContradiction fun q => c ⟨c1, by omega, by omega⟩
          rw [if_pos c3, bnd_eq, nI_1]
      · rw [if_neg c1, bnd_eq, nI_1]) (fun k _ hk c => by
      show Md_isAway_l2 b (nI d) m (nI k) = _
      obtain ⟨k1, k2, k3⟩ := key k hk
      have c2 : ¬ nI d < m.2 8 k := by rw [fa_lt, hdi]; omega
      have c3 : ¬ m.2 9 k ≤ nI d := by rw [fa_le, hdi]; omega
      unfold Md_isAway_l2
      rw [if_neg k1, chk_t k2, bnd_eq, k3, if_pos c.1, chk_t k2, bnd_eq, if_neg c2, chk_t k2, bnd_eq, if_neg c3]
      rfl)
  rw [nI_0] at hl
  rcases hl with ⟨h1, h2⟩ | ⟨k, h1, h2, h3, h4, h5⟩
  · exact ⟨fun ⟨k, q1, q2⟩ => absurd q2 (h1 k (Nat.zero_le k) (by omega)), fun _ => h2⟩
  · exact ⟨fun _ => h5, fun q => absurd ⟨k, by omega, h3⟩ q⟩
/-- the class's spans: does the k-th cover a day; do the first k -/
def cov (x : MS) (b : Int32) (k d : Nat) : Bool := decide (x.2 11 k = b) && (decide ((x.2 12 k).toInt ≤ (d : Int)) && decide ((d : Int) < (x.2 13 k).toInt))
def cv (x : MS) (b : Int32) : Nat → Nat → Bool
  | 0, _ => false
  | k + 1, d => cv x b k d || cov x b k d
theorem cv_iff {x : MS} {b : Int32} {d : Nat} : ∀ {k : Nat}, cv x b k d = true ↔ ∃ i, i < k ∧ cov x b i d = true
  | 0 => ⟨(fun h => by cases h), (fun ⟨i, h, _⟩ => by omega)⟩
  | k + 1 => by
    show (cv x b k d || cov x b k d) = true ↔ _
    rw [Bool.or_eq_true, cv_iff]
    constructor
    · rintro (⟨i, h1, h2⟩ | h)
      · exact ⟨i, by omega, h2⟩
      · exact ⟨k, by omega, h⟩
    · rintro ⟨i, h1, h2⟩
      by_cases e : i = k
      · subst e; exact Or.inr h2
      · exact Or.inl ⟨i, by omega, h2⟩
theorem cov_iff {x : MS} {b : Int32} {k d : Nat} : cov x b k d = true ↔ x.2 11 k = b ∧ (x.2 12 k).toInt ≤ (d : Int) ∧ (d : Int) < (x.2 13 k).toInt := by
  unfold cov
  rw [Bool.and_eq_true, Bool.and_eq_true, decide_eq_true_iff, decide_eq_true_iff, decide_eq_true_iff]
theorem Aw_iff {x m : MS} (hS : JS x m) (b : Int32) (d : Nat) : Aw m b d ↔ cv x b (m.1 3).toNatClampNeg d = true := by
  obtain ⟨s1, s2, ⟨f, hf, hfi⟩, s4, s5⟩ := hS
  have hc := cl_ti s2.1
  rw [cv_iff]
  constructor
  · rintro ⟨k, h1, h2⟩
    obtain ⟨i, hi, rfl⟩ := fb_onto (n := (m.1 3).toNatClampNeg) (f := f) (fun i hi => by have := (hf i (by omega)).1; omega) (fun i j hij hj => hfi i j hij (by omega)) (y := k) (by omega)
    obtain ⟨g1, g2, g3, g4⟩ := hf i (by omega)
    exact ⟨i, hi, cov_iff.mpr ⟨by rw [g2]; exact h2.1, by rw [g3]; exact h2.2.1, by rw [g4]; exact h2.2.2⟩⟩
  · rintro ⟨i, hi, h⟩
    obtain ⟨g1, g2, g3, g4⟩ := hf i (by omega)
    obtain ⟨h1, h2, h3⟩ := cov_iff.mp h
    exact ⟨f i, g1, by rw [← g2]; exact h1, by rw [← g3]; exact h2, by rw [← g4]; exact h3⟩
/-- no day of a boat is covered by two of its spans -/
theorem cov_apart {x m : MS} (hS : JS x m) {b : Int32} {i j d : Nat} (hi : (i : Int) < (m.1 3).toInt) (hj : (j : Int) < (m.1 3).toInt) (hij : i < j) : ¬ (cov x b i d = true ∧ cov x b j d = true) := by
  obtain ⟨s1, s2, ⟨f, hf, hfi⟩, s4, s5⟩ := hS
  rintro ⟨h1, h2⟩
  obtain ⟨a1, a2, a3⟩ := cov_iff.mp h1
  obtain ⟨b1, b2, b3⟩ := cov_iff.mp h2
  obtain ⟨g1, g2, g3, g4⟩ := hf i hi
  obtain ⟨e1, e2, e3, e4⟩ := hf j hj
  have := s5 (f i) (f j) g1 e1 (hfi i j hij hj) (by rw [← g2, ← e2, a1, b1])
  rw [g3] at a2
  rw [g4] at a3
  rw [e3] at b2
  rw [e4] at b3
  omega
theorem iv_ct (f t : Int) (a : Nat) : ∀ n : Nat, ((fb_ct (fun j => decide (f ≤ ((a + j : Nat) : Int)) && decide (((a + j : Nat) : Int) < t)) n : Nat) : Int) = if (if t < ((a + n : Nat) : Int) then t else ((a + n : Nat) : Int)) - (if (a : Int) < f then f else (a : Int)) > 0 then (if t < ((a + n : Nat) : Int) then t else ((a + n : Nat) : Int)) - (if (a : Int) < f then f else (a : Int)) else 0
  | 0 => by
    show (0 : Int) = _
    split <;> (repeat' split) <;> omega
  | n + 1 => by
    rw [fb_ct_succ]
    have ih := iv_ct f t a n
    have hcast : ((fb_ct (fun j => decide (f ≤ ((a + j : Nat) : Int)) && decide (((a + j : Nat) : Int) < t)) n + (if (decide (f ≤ ((a + n : Nat) : Int)) && decide (((a + n : Nat) : Int) < t)) = true then 1 else 0) : Nat) : Int) = (fb_ct (fun j => decide (f ≤ ((a + j : Nat) : Int)) && decide (((a + j : Nat) : Int) < t)) n : Nat) + (if f ≤ ((a + n : Nat) : Int) ∧ ((a + n : Nat) : Int) < t then 1 else 0) := by
      by_cases c : f ≤ ((a + n : Nat) : Int) ∧ ((a + n : Nat) : Int) < t
      · rw [if_pos c, if_pos (by rw [Bool.and_eq_true, decide_eq_true_iff, decide_eq_true_iff]; exact c)]
        omega
      · rw [if_neg c, if_neg (by rw [Bool.and_eq_true, decide_eq_true_iff, decide_eq_true_iff]; exact c)]
        omega
    rw [hcast, ih]
    clear hcast ih
    (repeat' split) <;> omega
theorem min_ti {a b : Int32} : (if a < b then a else b).toInt = if a.toInt < b.toInt then a.toInt else b.toInt := by
  by_cases c : a < b
  · rw [if_pos c, if_pos ((fa_lt _ _).mp c)]
  · rw [if_neg c, if_neg (fun q => c ((fa_lt _ _).mpr q))]
theorem max_ti {a b : Int32} : (if a < b then b else a).toInt = if a.toInt < b.toInt then b.toInt else a.toInt := by
  by_cases c : a < b
  · rw [if_pos c, if_pos ((fa_lt _ _).mp c)]
  · rw [if_neg c, if_neg (fun q => c ((fa_lt _ _).mpr q))]
theorem cov_ct {x : MS} {b : Int32} {i a n : Nat} : fb_ct (fun j => cov x b i (a + j)) n = if x.2 11 i = b then fb_ct (fun j => decide ((x.2 12 i).toInt ≤ ((a + j : Nat) : Int)) && decide (((a + j : Nat) : Int) < (x.2 13 i).toInt)) n else 0 := by
  by_cases c : x.2 11 i = b
  · rw [if_pos c]
    refine fb_ct_cong fun k _ => ?_
    unfold cov
    rw [decide_eq_true c, Bool.true_and]
  · rw [if_neg c]
    refine fb_ct_zero.mpr fun k _ => ?_
    unfold cov
    rw [decide_eq_false c, Bool.false_and]
theorem nights_eq {x m : MS} (hS : JS x m) (b : Int32) {a e : Nat} (hae : a ≤ e) (he : e ≤ 400) : f_Spans_nightsAway b (nI a) (nI e) x = some (nI (fb_ct (fun j => cv x b (m.1 3).toNatClampNeg (a + j)) (e - a))) := by
  obtain ⟨s1, s2, ⟨f, hf, hfi⟩, s4, s5⟩ := id hS
  have s22 := s2.2
  have hc := cl_ti s2.1
  have hn : m.1 3 = nI (m.1 3).toNatClampNeg := cnt_nI s2.1
  obtain ⟨n, hnn⟩ : ∃ n, n = (m.1 3).toNatClampNeg := ⟨_, rfl⟩
  rw [← hnn] at hc hn ⊢
  have key : ∀ k : Nat, k < n → ¬ x.1 4 ≤ nI k ∧ inb (nI k) 60 = true ∧ (nI k).toNatClampNeg = k := fun k hk => ⟨by rw [s1, hn]; exact nI_ge hk (by omega), inb_iff.mpr ⟨by rw [nI_toInt (by omega)]; omega, by rw [nI_toInt (by omega)]; show _ < (60 : Int); omega⟩, nI_clamp (by omega)⟩
  unfold f_Spans_nightsAway
  have h0 : (((0 : Int32), (0 : Int32)) : Int32 × Int32) = (fun i : Nat => ((nI (fb_ct (fun j => cv x b i (a + j)) (e - a)), nI i) : Int32 × Int32)) 0 := by
    show _ = (nI (fb_ct (fun j => false) (e - a)), nI 0)
    rw [fb_ct_zero.mpr (fun k _ => rfl), nI_0]
  rw [h0]
  refine loop_up (fun i : Nat => ((nI (fb_ct (fun j => cv x b i (a + j)) (e - a)), nI i) : Int32 × Int32)) n _ (fun i hi => ?_) ?_
  · show Spans_nightsAway_l6 b (nI a) (nI e) x (nI (fb_ct (fun j => cv x b i (a + j)) (e - a))) (nI i) = some (.inl (nI (fb_ct (fun j => cv x b i (a + j) || cov x b i (a + j)) (e - a)), nI (i + 1)))
    obtain ⟨k1, k2, k3⟩ := key i hi
    rw [fb_ct_or (fun k _ q => by
      obtain ⟨q1, q2⟩ := q
      obtain ⟨w, w1, w2⟩ := cv_iff.mp q1
      exact cov_apart hS (b := b) (i := w) (j := i) (d := a + k) (by omega) (by omega) w1 ⟨w2, q2⟩)]
    have hcc := cov_ct (x := x) (b := b) (i := i) (a := a) (n := e - a)
    unfold Spans_nightsAway_l6
    rw [if_neg k1, chk_t k2, bnd_eq, k3]
    by_cases c : x.2 11 i = b
    · rw [if_pos c] at hcc
      rw [if_pos c]
      simp only [chk_t k2, bnd_eq, nI_1, k3]
      obtain ⟨g1, g2, g3, g4⟩ := hf i (by omega)
      have r := s4 (f i) g1
      rw [← g3, ← g4] at r
      have hiv := iv_ct (x.2 12 i).toInt (x.2 13 i).toInt a (e - a)
      rw [← hcc, show a + (e - a) = e by omega] at hiv
      have hai : (nI a).toInt = (a : Int) := nI_toInt (by omega)
      have hei : (nI e).toInt = (e : Int) := nI_toInt (by omega)
      have m1 := min_ti (a := x.2 13 i) (b := nI e)
      have m2 := max_ti (a := nI a) (b := x.2 12 i)
      rw [hei] at m1
      rw [hai] at m2
      obtain ⟨v4, e4⟩ : ∃ v, v = (if x.2 13 i < nI e then x.2 13 i else nI e) := ⟨_, rfl⟩
      obtain ⟨v6, e6⟩ : ∃ v, v = (if nI a < x.2 12 i then x.2 12 i else nI a) := ⟨_, rfl⟩
      rw [← e4] at m1 ⊢
      rw [← e6] at m2 ⊢
      have b4 : 0 ≤ v4.toInt ∧ v4.toInt ≤ 400 := by
        rw [m1]
        split <;> omega
      have b6 : 0 ≤ v6.toInt ∧ v6.toInt ≤ 400 := by
        rw [m2]
        split <;> omega
      have hsub : (v4 - v6).toInt = v4.toInt - v6.toInt := fb_subI (by omega) (by omega)
      have hv7 : (if (0 : Int32) < v4 - v6 then v4 - v6 else 0) = nI (fb_ct (fun j => cov x b i (a + j)) (e - a)) := by
        have hle := fb_ct_le (fun j => cov x b i (a + j)) (e - a)
        rw [fa_eq, nI_toInt (by omega), hiv, ← m1, ← m2]
        by_cases c2 : (0 : Int32) < v4 - v6
        · rw [if_pos c2]
          rw [fa_lt, hsub] at c2
          have c2 : (0 : Int) < v4.toInt - v6.toInt := c2
          rw [if_pos c2, hsub]
        · rw [if_neg c2]
          rw [fa_lt, hsub] at c2
          have c2 : ¬ (0 : Int) < v4.toInt - v6.toInt := c2
          rw [if_neg c2]
          rfl
      rw [hv7, nI_add]
    · rw [if_neg c] at hcc
      rw [if_neg c, bnd_eq, nI_1, hcc]
      rfl
  · show Spans_nightsAway_l6 b (nI a) (nI e) x (nI (fb_ct (fun j => cv x b n (a + j)) (e - a))) (nI n) = _
    unfold Spans_nightsAway_l6
    rw [if_pos (by rw [s1, hn]; exact Int32.le_refl _)]
    rfl
/-- no night away, all nights away -/
theorem nights_none {x m : MS} (hS : JS x m) (b : Int32) {a e : Nat} (hae : a ≤ e) (he : e ≤ 400) : ∃ v : Int32, f_Spans_nightsAway b (nI a) (nI e) x = some v ∧ (v = 0 ↔ ∀ d, a ≤ d → d < e → ¬ Aw m b d) ∧ ((nI e - nI a) ≤ v ↔ ∀ d, a ≤ d → d < e → Aw m b d) := by
  have hle := fb_ct_le (fun j => cv x b (m.1 3).toNatClampNeg (a + j)) (e - a)
  have hsub : nI e - nI a = nI (e - a) := pk_sub hae
  refine ⟨_, nights_eq hS b hae he, ?_, ?_⟩
  · rw [← nI_0, nI_eq (by omega) (by omega), fb_ct_zero]
    constructor
    · intro h d h1 h2 h3
      have := h (d - a) (by omega)
      rw [show a + (d - a) = d by omega, (Aw_iff hS b d).mp h3] at this
      cases this
    · intro h j hj
      cases q : cv x b (m.1 3).toNatClampNeg (a + j) with
      | false => rfl
      | true => exact absurd ((Aw_iff hS b (a + j)).mpr q) (h (a + j) (by omega) (by omega))
  · rw [hsub, nI_leI (by omega) (by omega)]
    constructor
    · intro h d h1 h2
      have := fb_ct_all.mp (Nat.le_antisymm hle h) (d - a) (by omega)
      rw [show a + (d - a) = d by omega] at this
      exact (Aw_iff hS b d).mpr this
    · intro h
      rw [fb_ct_all.mpr (fun j hj => (Aw_iff hS b (a + j)).mp (h (a + j) (by omega) (by omega)))]
      exact Nat.le_refl _
