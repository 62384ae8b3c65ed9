-- ===== bits =====
theorem b_or (x y : Int32) (i : Nat) : bt (x ||| y) i = (bt x i || bt y i) := by unfold bt; rw [Int32.toBitVec_or, BitVec.getLsbD_or]
theorem b_xor (x y : Int32) (i : Nat) : bt (x ^^^ y) i = (bt x i).xor (bt y i) := by unfold bt; rw [Int32.toBitVec_xor, BitVec.getLsbD_xor]
theorem b_0 : ∀ i, i < 32 → bt 0 i = false := by decide +kernel
theorem b_m1 : ∀ i, i < 32 → bt (-1) i = true := by decide +kernel
theorem b_1 : ∀ i, i < 32 → bt 1 i = decide (i = 0) := by decide +kernel
theorem b_shl : ∀ k, k < 32 → ∀ i, i < 32 → bt ((1 : Int32) <<< (nI k &&& 31)) i = decide (i = k) := by decide +kernel
theorem b_z {x : Int32} : x = 0 ↔ ∀ i, i < 32 → bt x i = false := ⟨fun h i hi => by rw [h]; exact b_0 i hi, fun h => b_ext (fun i hi => by rw [h i hi, b_0 i hi])⟩
theorem b_test {v : Int32} {b : Nat} (hb : b < 32) : ((v >>> (nI b &&& 31)) &&& (1 : Int32)) = 0 ↔ bt v b = false := by
  rw [b_z]
  have h0 := b_sshr b hb v (i := 0) (by omega)
  rw [if_pos (by omega), Nat.add_zero] at h0
  constructor
  · intro h
    have h1 := h 0 (by omega)
    rw [b_and, b_1 0 (by omega), h0] at h1
    cases q : bt v b with
    | false => rfl
    | true => rw [q] at h1; exact absurd h1 (by decide)
  · intro h i hi
    rw [b_and, b_1 i hi]
    by_cases e : i = 0
    · rw [e, h0, h]; rfl
    · rw [decide_eq_false e, Bool.and_false]
theorem b_set {v : Int32} {k i : Nat} (hk : k < 32) (hi : i < 32) : bt (v ||| ((1 : Int32) <<< (nI k &&& 31))) i = (bt v i || decide (i = k)) := by rw [b_or, b_shl k hk i hi]
theorem b_clr {v : Int32} {k i : Nat} (hk : k < 32) (hi : i < 32) : bt (v &&& (((1 : Int32) <<< (nI k &&& 31)) ^^^ (-1 : Int32))) i = (bt v i && !decide (i = k)) := by
  rw [b_and, b_xor, b_shl k hk i hi, b_m1 i hi]
  cases bt v i <;> cases decide (i = k) <;> rfl
-- ===== a day that is none; spans cut short =====
theorem find_none {x m : MS} (hS : JS x m) (b d : Int32) (hd : ¬ (0 ≤ d.toInt ∧ d.toInt ≤ 399)) : f_Spans_find b d x = some (-1) := by
  obtain ⟨s1, s2, ⟨f, hf, hfi⟩, s4, s5⟩ := id hS
  have s22 := s2.2
  have hc := cl_ti s2.1
  have hn : m.1 3 = nI (m.1 3).toNatClampNeg := cnt_nI s2.1
  obtain ⟨n, hnn⟩ : ∃ n, n = (m.1 3).toNatClampNeg := ⟨_, rfl⟩
  rw [← hnn] at hc hn
  have key : ∀ k : Nat, k < n → ¬ x.1 4 ≤ nI k ∧ inb (nI k) 60 = true ∧ (nI k).toNatClampNeg = k := fun k hk => ⟨by rw [s1, hn]; exact nI_ge hk (by omega), ib_nI (by omega) (by omega), nI_clamp (by omega)⟩
  unfold f_Spans_find
  rw [← nI_0]
  rcases loop_first (f := fun z => Spans_find_l2 b d x z) (fun _ => False) (fun k => nI k) (-1) n (by
      show Spans_find_l2 b d x (nI n) = _
      unfold Spans_find_l2
      rw [if_pos (by rw [s1, hn]; exact Int32.le_refl _)]
      rfl) n 0 (by omega) (fun k _ hk c => by
      show Spans_find_l2 b d x (nI k) = _
      obtain ⟨k1, k2, k3⟩ := key k hk
      obtain ⟨g1, g2, g3, g4⟩ := hf k (by omega)
      obtain ⟨p1, p2, p3, p4, p5, p6⟩ := s4 (f k) g1
      unfold Spans_find_l2
      simp only [if_neg k1, chk_t k2, bnd_eq, k3, nI_1]
      by_cases c1 : x.2 11 k = b
      · rw [if_pos c1]
        by_cases c2 : d < x.2 12 k
        · rw [if_pos c2]
        · rw [if_neg c2, if_pos (by rw [fa_le, g4]; rw [fa_lt, g3] at c2; omega : x.2 13 k ≤ d)]
      · rw [if_neg c1]) (fun k _ hk c => absurd c id) with ⟨z1, z2⟩ | ⟨k, z1, z2, z3, z4, z5⟩
  · exact z2
  · exact absurd z3 id
def JN (x : MS) (n : Nat) : Prop := x.1 4 = nI n ∧ n ≤ 60 ∧ (∀ i, i < n → 0 ≤ (x.2 12 i).toInt ∧ (x.2 12 i).toInt ≤ (x.2 13 i).toInt ∧ (x.2 13 i).toInt ≤ 400) ∧ ∀ (b : Int32) (d i j : Nat), i < j → j < n → ¬ (cov x b i d = true ∧ cov x b j d = true)
theorem nightsN {x : MS} {n : Nat} (hS : JN x n) (b : Int32) {a e : Nat} (hae : a ≤ e) (he : e ≤ 400) : f_Spans_nightsAway b (nI a) (nI e) x = some (nI (fb_ct (fun j => cv x b n (a + j)) (e - a))) := by
  obtain ⟨s1, s2, s4, s5⟩ := id hS
  have key : ∀ k : Nat, k < n → ¬ x.1 4 ≤ nI k ∧ inb (nI k) 60 = true ∧ (nI k).toNatClampNeg = k := fun k hk => ⟨by rw [s1]; exact nI_ge hk (by omega), ib_nI (by omega) (by omega), nI_clamp (by omega)⟩
  unfold f_Spans_nightsAway
  have h0 : (((0 : Int32), (0 : Int32)) : Int32 × Int32) = (fun i : Nat => ((nI (fb_ct (fun j => cv x b i (a + j)) (e - a)), nI i) : Int32 × Int32)) 0 := by
    show _ = (nI (fb_ct (fun j => false) (e - a)), nI 0)
    rw [fb_ct_zero.mpr (fun k _ => rfl), nI_0]
  rw [h0]
  refine loop_up (fun i : Nat => ((nI (fb_ct (fun j => cv x b i (a + j)) (e - a)), nI i) : Int32 × Int32)) n _ (fun i hi => ?_) ?_
  · show Spans_nightsAway_l6 b (nI a) (nI e) x (nI (fb_ct (fun j => cv x b i (a + j)) (e - a))) (nI i) = some (.inl (nI (fb_ct (fun j => cv x b i (a + j) || cov x b i (a + j)) (e - a)), nI (i + 1)))
    obtain ⟨k1, k2, k3⟩ := key i hi
    rw [fb_ct_or (fun k _ q => by
      obtain ⟨q1, q2⟩ := q
      obtain ⟨w, w1, w2⟩ := cv_iff.mp q1
      exact s5 b (a + k) w i w1 hi ⟨w2, q2⟩)]
    have hcc := cov_ct (x := x) (b := b) (i := i) (a := a) (n := e - a)
    unfold Spans_nightsAway_l6
    rw [if_neg k1, chk_t k2, bnd_eq, k3]
    by_cases c : x.2 11 i = b
    · rw [if_pos c] at hcc
      rw [if_pos c]
      simp only [chk_t k2, bnd_eq, nI_1, k3]
      have r := s4 i hi
      have hiv := iv_ct (x.2 12 i).toInt (x.2 13 i).toInt a (e - a)
      rw [← hcc, show a + (e - a) = e by omega] at hiv
      have hai : (nI a).toInt = (a : Int) := nI_toInt (by omega)
      have hei : (nI e).toInt = (e : Int) := nI_toInt (by omega)
      have m1 := min_ti (a := x.2 13 i) (b := nI e)
      have m2 := max_ti (a := nI a) (b := x.2 12 i)
      rw [hei] at m1
      rw [hai] at m2
      obtain ⟨v4, e4⟩ : ∃ v, v = (if x.2 13 i < nI e then x.2 13 i else nI e) := ⟨_, rfl⟩
      obtain ⟨v6, e6⟩ : ∃ v, v = (if nI a < x.2 12 i then x.2 12 i else nI a) := ⟨_, rfl⟩
      rw [← e4] at m1 ⊢
      rw [← e6] at m2 ⊢
      have b4 : 0 ≤ v4.toInt ∧ v4.toInt ≤ 400 := by
        rw [m1]
        split <;> omega
      have b6 : 0 ≤ v6.toInt ∧ v6.toInt ≤ 400 := by
        rw [m2]
        split <;> omega
      have hsub : (v4 - v6).toInt = v4.toInt - v6.toInt := fb_subI (by omega) (by omega)
      have hv7 : (if (0 : Int32) < v4 - v6 then v4 - v6 else 0) = nI (fb_ct (fun j => cov x b i (a + j)) (e - a)) := by
        have hle := fb_ct_le (fun j => cov x b i (a + j)) (e - a)
        rw [fa_eq, nI_toInt (by omega), hiv, ← m1, ← m2]
        by_cases c2 : (0 : Int32) < v4 - v6
        · rw [if_pos c2]
          rw [fa_lt, hsub] at c2
          have c2 : (0 : Int) < v4.toInt - v6.toInt := c2
          rw [if_pos c2, hsub]
        · rw [if_neg c2]
          rw [fa_lt, hsub] at c2
          have c2 : ¬ (0 : Int) < v4.toInt - v6.toInt := c2
          rw [if_neg c2]
          rfl
      rw [hv7, nI_add]
    · rw [if_neg c] at hcc
      rw [if_neg c, bnd_eq, nI_1, hcc]
      rfl
  · show Spans_nightsAway_l6 b (nI a) (nI e) x (nI (fb_ct (fun j => cv x b n (a + j)) (e - a))) (nI n) = _
    unfold Spans_nightsAway_l6
    rw [if_pos (by rw [s1]; exact Int32.le_refl _)]
    rfl
/-- what the walk may change, in the class and in the reference -/
def FXW (x y : MS) : Prop := (∀ j, j < 6 ∨ 9 < j → y.1 j = x.1 j) ∧ (∀ j, j < 18 ∨ 26 < j → y.2 j = x.2 j)
def FMW (m y : MS) : Prop := (∀ j, j < 5 ∨ 10 < j → y.1 j = m.1 j) ∧ (∀ j, j < 14 ∨ 16 < j → y.2 j = m.2 j)
def gX (x : MS) (a : Nat → Int32) (c : Nat → Nat → Int32) : MS := (fun j => if 6 ≤ j ∧ j ≤ 9 then a j else x.1 j, fun j => if 18 ≤ j ∧ j ≤ 26 then c j else x.2 j)
def gM (m : MS) (a : Nat → Int32) (c : Nat → Nat → Int32) : MS := (fun j => if 5 ≤ j ∧ j ≤ 10 then a j else m.1 j, fun j => if 14 ≤ j ∧ j ≤ 16 then c j else m.2 j)
theorem fxw_eq {x y : MS} (h : FXW x y) : ∃ a c, y = gX x a c := by
  refine ⟨y.1, y.2, Prod.ext (funext fun j => ?_) (funext fun j => ?_)⟩
  · show y.1 j = if 6 ≤ j ∧ j ≤ 9 then y.1 j else x.1 j
    by_cases e : 6 ≤ j ∧ j ≤ 9
    · rw [if_pos e]
    · rw [if_neg e]; exact h.1 j (by omega)
  · show y.2 j = if 18 ≤ j ∧ j ≤ 26 then y.2 j else x.2 j
    by_cases e : 18 ≤ j ∧ j ≤ 26
    · rw [if_pos e]
    · rw [if_neg e]; exact h.2 j (by omega)
theorem fmw_eq {x y : MS} (h : FMW x y) : ∃ a c, y = gM x a c := by
  refine ⟨y.1, y.2, Prod.ext (funext fun j => ?_) (funext fun j => ?_)⟩
  · show y.1 j = if 5 ≤ j ∧ j ≤ 10 then y.1 j else x.1 j
    by_cases e : 5 ≤ j ∧ j ≤ 10
    · rw [if_pos e]
    · rw [if_neg e]; exact h.1 j (by omega)
  · show y.2 j = if 14 ≤ j ∧ j ≤ 16 then y.2 j else x.2 j
    by_cases e : 14 ≤ j ∧ j ≤ 16
    · rw [if_pos e]
    · rw [if_neg e]; exact h.2 j (by omega)
theorem inv_w {x m y z : MS} (h : Inv x m) (hx : FXW x y) (hm : FMW m z) : Inv y z := by
  obtain ⟨a, c, rfl⟩ := fxw_eq hx
  obtain ⟨b, d, rfl⟩ := fmw_eq hm
  exact h
theorem fxw_pf {x y : MS} (h : FXW x y) {i : Nat} {v : Int32} (hi : 6 ≤ i ∧ i ≤ 9) : FXW x (pf y i v) := ⟨fun j hj => by
  show (if j = i then v else y.1 j) = x.1 j
  rw [if_neg (by omega)]; exact h.1 j hj, h.2⟩
theorem fxw_pr {x y : MS} (h : FXW x y) {i : Nat} {f : Nat → Int32} (hi : 18 ≤ i ∧ i ≤ 26) : FXW x (pr y i f) := ⟨h.1, fun j hj => by
  show (if j = i then f else y.2 j) = x.2 j
  rw [if_neg (by omega)]; exact h.2 j hj⟩
theorem fxw_pa {x y : MS} (h : FXW x y) {i k : Nat} {v : Int32} (hi : 18 ≤ i ∧ i ≤ 26) : FXW x (pa y i k v) := fxw_pr h hi
theorem fmw_pf {x y : MS} (h : FMW x y) {i : Nat} {v : Int32} (hi : 5 ≤ i ∧ i ≤ 10) : FMW x (pf y i v) := ⟨fun j hj => by
  show (if j = i then v else y.1 j) = x.1 j
  rw [if_neg (by omega)]; exact h.1 j hj, h.2⟩
theorem fmw_pr {x y : MS} (h : FMW x y) {i : Nat} {f : Nat → Int32} (hi : 14 ≤ i ∧ i ≤ 16) : FMW x (pr y i f) := ⟨h.1, fun j hj => by
  show (if j = i then f else y.2 j) = x.2 j
  rw [if_neg (by omega)]; exact h.2 j hj⟩
theorem fmw_pa {x y : MS} (h : FMW x y) {i k : Nat} {v : Int32} (hi : 14 ≤ i ∧ i ≤ 16) : FMW x (pa y i k v) := fmw_pr h hi
theorem fxw_refl (x : MS) : FXW x x := ⟨fun _ _ => rfl, fun _ _ => rfl⟩
theorem fmw_refl (x : MS) : FMW x x := ⟨fun _ _ => rfl, fun _ _ => rfl⟩
/-- the boat `bo` comes home: away, but for its span that ends at E -/
def Aw3 (m : MS) (bo E : Nat) (k d : Nat) : Prop := Aw m (nI k) d ∧ ¬ (k = bo ∧ d < E)
def NoOwn3 (m : MS) (bo E p a e : Nat) : Prop := ¬ ∃ k : Nat, (k : Int) < (m.1 2).toInt ∧ (m.2 6 k).toInt = (p : Int) ∧ ∃ d, a ≤ d ∧ d < e ∧ ¬ Aw3 m bo E k d
/-- the class's state when a span is cut short at `day` -/
def cut (x : MS) (k day : Nat) : MS := pa x 13 k (nI day)
theorem cut_cov {x : MS} {k day : Nat} {b : Int32} {i d : Nat} (hday : day < 2 ^ 31) : cov (cut x k day) b i d = true ↔ x.2 11 i = b ∧ (x.2 12 i).toInt ≤ (d : Int) ∧ (d : Int) < (if i = k then (day : Int) else (x.2 13 i).toInt) := by
  rw [cov_iff]
  show x.2 11 i = b ∧ (x.2 12 i).toInt ≤ (d : Int) ∧ (d : Int) < (upd (x.2 13) k (nI day) i).toInt ↔ _
  by_cases e : i = k
  · rw [if_pos e, e, pk_us, nI_toInt hday]
  · rw [if_neg e, pk_un e]
theorem cut_jn {x m : MS} (hS : JS x m) {k day bo E : Nat} (hk : (k : Int) < (m.1 3).toInt) (hb : x.2 11 k = nI bo) (hbo : bo < 2 ^ 31) (h1 : (x.2 12 k).toInt ≤ (day : Int)) (h2 : (day : Int) < (x.2 13 k).toInt) (hE : (x.2 13 k).toInt = (E : Int)) : JN (cut x k day) (m.1 3).toNatClampNeg ∧ ∀ (j d : Nat), j < 2 ^ 31 → day ≤ d → (cv (cut x k day) (nI j) (m.1 3).toNatClampNeg d = true ↔ Aw3 m bo E j d) := by
  obtain ⟨s1, s2, ⟨f, hf, hfi⟩, s4, s5⟩ := id hS
  have s22 := s2.2
  have hc := cl_ti s2.1
  have hrng : ∀ i : Nat, (i : Int) < (m.1 3).toInt → 0 ≤ (x.2 12 i).toInt ∧ (x.2 12 i).toInt < (x.2 13 i).toInt ∧ (x.2 13 i).toInt ≤ 400 := fun i hi => by
    obtain ⟨g1, g2, g3, g4⟩ := hf i hi
    obtain ⟨p1, p2, p3, p4, p5, p6⟩ := s4 (f i) g1
    rw [g3, g4]
    exact ⟨p4, p5, p6⟩
  have hkr := hrng k hk
  have hsub : ∀ (b : Int32) (i d : Nat), cov (cut x k day) b i d = true → cov x b i d = true := fun b i d q => by
    obtain ⟨q1, q2, q3⟩ := (cut_cov (by omega)).mp q
    refine cov_iff.mpr ⟨q1, q2, ?_⟩
    by_cases e : i = k
    · rw [if_pos e] at q3
      rw [e]; omega
    · rw [if_neg e] at q3; exact q3
  refine ⟨⟨s1.trans (cnt_nI s2.1), by omega, fun i hi => ?_, fun b d i j hij hj q => ?_⟩, fun j d hj hd => ?_⟩
  · have r := hrng i (by omega)
    show 0 ≤ (x.2 12 i).toInt ∧ (x.2 12 i).toInt ≤ (upd (x.2 13) k (nI day) i).toInt ∧ (upd (x.2 13) k (nI day) i).toInt ≤ 400
    by_cases e : i = k
    · rw [e, pk_us, nI_toInt (by omega)]
      rw [e] at r
      omega
    · rw [pk_un e]; omega
  · exact cov_apart hS (by omega) (by omega) hij ⟨hsub b i d q.1, hsub b j d q.2⟩
  · rw [cv_iff]
    constructor
    · rintro ⟨i, i1, i2⟩
      refine ⟨(Aw_iff hS (nI j) d).mpr (cv_iff.mpr ⟨i, i1, hsub _ i d i2⟩), ?_⟩
      rintro ⟨e1, e2⟩
      obtain ⟨q1, q2, q3⟩ := (cut_cov (by omega)).mp i2
      have hne : i ≠ k := fun e => by
        rw [if_pos e] at q3
        omega
      have hck : cov x (nI j) k d = true := cov_iff.mpr ⟨by rw [hb, e1], by omega, by omega⟩
      rcases Nat.lt_or_gt_of_ne hne with z | z
      · exact cov_apart hS (by omega) hk z ⟨hsub _ i d i2, hck⟩
      · exact cov_apart hS hk (by omega) z ⟨hck, hsub _ i d i2⟩
    · rintro ⟨q1, q2⟩
      obtain ⟨i, i1, i2⟩ := cv_iff.mp ((Aw_iff hS (nI j) d).mp q1)
      obtain ⟨r1, r2, r3⟩ := cov_iff.mp i2
      refine ⟨i, i1, (cut_cov (by omega)).mpr ⟨r1, r2, ?_⟩⟩
      by_cases e : i = k
      · rw [e, hb] at r1
        rw [e] at r3
        exact absurd ⟨((nI_eq hbo hj).mp r1).symm, by omega⟩ q2
      · rw [if_neg e]; exact r3
theorem cv_rows {x y : MS} (h1 : y.2 11 = x.2 11) (h2 : y.2 12 = x.2 12) (h3 : y.2 13 = x.2 13) (b : Int32) (d : Nat) : ∀ n, cv y b n d = cv x b n d
  | 0 => rfl
  | n + 1 => by
    show (cv y b n d || cov y b n d) = (cv x b n d || cov x b n d)
    rw [cv_rows h1 h2 h3 b d n]
    unfold cov
    rw [h1, h2, h3]
theorem jn_rows {x y : MS} {n : Nat} (h0 : y.1 4 = x.1 4) (h1 : y.2 11 = x.2 11) (h2 : y.2 12 = x.2 12) (h3 : y.2 13 = x.2 13) (h : JN x n) : JN y n := by
  unfold JN cov at h ⊢
  rw [h0, h1, h2, h3]
  exact h
/-- may boat q lie at berth p from a to e - 1, as the class asks it in the walk -/
theorem canLie3 {x m y : MS} (h : Inv x m) {k day bo E : Nat} (hk : (k : Int) < (m.1 3).toInt) (hb : x.2 11 k = nI bo) (hbo : bo < 2 ^ 31) (h1 : (x.2 12 k).toInt ≤ (day : Int)) (h2 : (day : Int) < (x.2 13 k).toInt) (hE : (x.2 13 k).toInt = (E : Int)) (hy : FXW (cut x k day) y) {q p a e : Nat} (hq : (q : Int) < (m.1 2).toInt) (hp : (p : Int) < (m.1 1).toInt) (hda : day ≤ a) (hae : a < e) (he : e ≤ 400) : Says (f_Hb_canLie (nI q) (nI p) (nI a) (nI e) y) (Fit m (m.2 3 q) (m.2 4 q) p a e ∧ NoOwn3 m bo E p a e) := by
  obtain ⟨hL, hB, hO, hH, hS, hT, hK, hC, hW, hP, hR, hU⟩ := id h
  have b42 := hB.2.2.2.1.2
  have o62 : (m.1 2).toInt ≤ 30 := hO.2.2.2.2.2.1.2
  obtain ⟨hjn, hcv⟩ := cut_jn hS hk hb hbo h1 h2 hE
  have hjy : JN y (m.1 3).toNatClampNeg := jn_rows (hy.1 4 (by omega)) (hy.2 11 (by omega)) (hy.2 12 (by omega)) (hy.2 13 (by omega)) hjn
  have hcy : ∀ (j d : Nat), j < 2 ^ 31 → day ≤ d → (cv y (nI j) (m.1 3).toNatClampNeg d = true ↔ Aw3 m bo E j d) := fun j d z1 z2 => by
    rw [cv_rows (hy.2 11 (by omega)) (hy.2 12 (by omega)) (hy.2 13 (by omega))]
    exact hcv j d z1 z2
  have y6 : y.2 6 = x.2 6 := hy.2 6 (by omega)
  have hJ : JL y m ∧ JB y m ∧ JO y m := by
    obtain ⟨aa, cc, rfl⟩ := fxw_eq hy
    exact ⟨hL, hB, hO⟩
  have g1 := fan_says hJ.1 hJ.2.1 hJ.2.2 hq hp hae he
  have g2 : Says (f_Hb_isOwnerThere (nI p) (nI a) (nI e) y) (¬ NoOwn3 m bo E p a e) := by
    have hi : inb (nI p) 10 = true := ib_nI (by omega) (by omega)
    unfold f_Hb_isOwnerThere
    rw [chk_t hi, bnd_eq, nI_clamp (by omega), y6]
    rcases hH p hp with ⟨z1, z2⟩ | ⟨j, z1, z2, z3, z4⟩
    · rw [if_pos z1]
      exact ⟨fun w => absurd (fun ⟨k', q1, q2, _⟩ => z2 k' q1 q2) w, fun _ => rfl⟩
    · have hne : ¬ x.2 6 p = -1 := by
        rw [z2, fa_eq, nI_toInt (by omega)]
        show ¬ (j : Int) = -1
        omega
      have hle := fb_ct_le (fun i => cv y (nI j) (m.1 3).toNatClampNeg (a + i)) (e - a)
      rw [if_neg hne, z2, nightsN hjy (nI j) (Nat.le_of_lt hae) he, Option.bind_some, pk_sub (Nat.le_of_lt hae)]
      have v3 : nI (e - a) ≤ nI (fb_ct (fun i => cv y (nI j) (m.1 3).toNatClampNeg (a + i)) (e - a)) ↔ ∀ d, a ≤ d → d < e → Aw3 m bo E j d := by
        rw [nI_leI (by omega) (by omega)]
        constructor
        · intro w d d1 d2
          have := fb_ct_all.mp (Nat.le_antisymm hle w) (d - a) (by omega)
          rw [show a + (d - a) = d by omega] at this
          exact (hcy j d (by omega) (by omega)).mp this
        · intro w
          rw [fb_ct_all.mpr (fun i hi => (hcy j (a + i) (by omega) (by omega)).mpr (w (a + i) (by omega) (by omega)))]
          exact Nat.le_refl _
      refine ⟨fun w => ?_, fun w => ?_⟩
      · have n1 : ¬ nI (e - a) ≤ nI (fb_ct (fun i => cv y (nI j) (m.1 3).toNatClampNeg (a + i)) (e - a)) := fun z => w (fun ⟨k', q1, q2, d, q3, q4, q5⟩ => by
          have ej := z4 k' q1 q2
          subst ej
          exact q5 (v3.mp z d q3 q4))
        rw [if_neg n1]
      · have n1 : nI (e - a) ≤ nI (fb_ct (fun i => cv y (nI j) (m.1 3).toNatClampNeg (a + i)) (e - a)) := v3.mpr (fun d d1 d2 => Classical.byContradiction fun z => w (fun hno => hno ⟨j, z1, z3, d, d1, d2, z⟩))
        rw [if_pos n1]
  unfold f_Hb_canLie
  by_cases c1 : Fit m (m.2 3 q) (m.2 4 q) p a e
  · rw [g1.1 c1, Option.bind_some, if10]
    refine ⟨fun w => ?_, fun w => ?_⟩
    · rw [g2.2 (fun z => z w.2)]
      rfl
    · rw [g2.1 (fun z => w ⟨c1, z⟩)]
      rfl
  · rw [g1.2 c1]
    exact ⟨fun w => absurd w.1 c1, fun _ => rfl⟩
