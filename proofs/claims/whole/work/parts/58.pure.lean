/-- one more stay -/
def sX (s : MS) (b p a e : Int32) : MS := pf (pa (pa (pa (pa s 14 (s.1 5).toNatClampNeg b) 15 (s.1 5).toNatClampNeg p) 16 (s.1 5).toNatClampNeg a) 17 (s.1 5).toNatClampNeg e) 5 (s.1 5 + 1)
def sM (s : MS) (b p a e : Int32) : MS := pf (pa (pa (pa (pa s 10 (s.1 4).toNatClampNeg b) 11 (s.1 4).toNatClampNeg p) 12 (s.1 4).toNatClampNeg a) 13 (s.1 4).toNatClampNeg e) 4 (s.1 4 + 1)
theorem sadd_eq {s : MS} (h0 : 0 ≤ (s.1 5).toInt) (hlt : (s.1 5).toInt < 40) (b p a e : Int32) : f_Stays_add b p a e s = some (s.1 5, sX s b p a e) := by
  have hi : inb (s.1 5) 40 = true := inb_iff.mpr ⟨h0, hlt⟩
  have n1 : s.1 5 < (40 : Int32) := by rw [fa_lt]; exact hlt
  unfold f_Stays_add
  rw [if_pos n1, chk_t hi, bnd_eq, chk_t (b := inb ((pa s 14 (s.1 5).toNatClampNeg b).1 5) 40) hi, bnd_eq, chk_t (b := inb ((pa (pa s 14 (s.1 5).toNatClampNeg b) 15 ((pa s 14 (s.1 5).toNatClampNeg b).1 5).toNatClampNeg p).1 5) 40) hi, bnd_eq, chk_t (b := inb ((pa (pa (pa s 14 (s.1 5).toNatClampNeg b) 15 ((pa s 14 (s.1 5).toNatClampNeg b).1 5).toNatClampNeg p) 16 ((pa (pa s 14 (s.1 5).toNatClampNeg b) 15 ((pa s 14 (s.1 5).toNatClampNeg b).1 5).toNatClampNeg p).1 5).toNatClampNeg a).1 5) 40) hi]
  rfl
theorem sput_eq {s : MS} (h0 : 0 ≤ (s.1 4).toInt) (hlt : (s.1 4).toInt < 40) (b p a e : Int32) : f_Md_putStay b p a e s = some (sM s b p a e) := by
  have hi : inb (s.1 4) 40 = true := inb_iff.mpr ⟨h0, hlt⟩
  unfold f_Md_putStay
  rw [chk_t hi, bnd_eq, chk_t (b := inb ((pa s 10 (s.1 4).toNatClampNeg b).1 4) 40) hi, bnd_eq, chk_t (b := inb ((pa (pa s 10 (s.1 4).toNatClampNeg b) 11 ((pa s 10 (s.1 4).toNatClampNeg b).1 4).toNatClampNeg p).1 4) 40) hi, bnd_eq, chk_t (b := inb ((pa (pa (pa s 10 (s.1 4).toNatClampNeg b) 11 ((pa s 10 (s.1 4).toNatClampNeg b).1 4).toNatClampNeg p) 12 ((pa (pa s 10 (s.1 4).toNatClampNeg b) 11 ((pa s 10 (s.1 4).toNatClampNeg b).1 4).toNatClampNeg p).1 4).toNatClampNeg a).1 4) 40) hi]
  rfl
theorem jt_add {x m : MS} (hT : JT x m) (hlt : (m.1 4).toInt < 40) {b p a e : Int32} (hb : 0 ≤ b.toInt ∧ b.toInt < (m.1 2).toInt) (hh : (m.2 6 b.toNatClampNeg).toInt = -1) (hp : 0 ≤ p.toInt ∧ p.toInt < (m.1 1).toInt) (hae : 0 ≤ a.toInt ∧ a.toInt < e.toInt ∧ e.toInt ≤ 400) : JT (sX x b p a e) (sM m b p a e) := by
  obtain ⟨t1, t2, t3, t4, t5, t6, t7⟩ := hT
  have hc := cl_ti t6.1
  have e1 : (m.1 4 + (1 : Int32)).toInt = (m.1 4).toInt + 1 := add1 (by omega)
  refine ⟨?_, ?_, ?_, ?_, ?_, ?_, ?_⟩
  · show x.1 5 + 1 = m.1 4 + 1
    rw [t1]
  · show upd (x.2 14) (x.1 5).toNatClampNeg b = upd (m.2 10) (m.1 4).toNatClampNeg b
    rw [t1, t2]
  · show upd (x.2 15) (x.1 5).toNatClampNeg p = upd (m.2 11) (m.1 4).toNatClampNeg p
    rw [t1, t3]
  · show upd (x.2 16) (x.1 5).toNatClampNeg a = upd (m.2 12) (m.1 4).toNatClampNeg a
    rw [t1, t4]
  · show upd (x.2 17) (x.1 5).toNatClampNeg e = upd (m.2 13) (m.1 4).toNatClampNeg e
    rw [t1, t5]
  · show cnt (m.1 4 + 1) 40
    exact ⟨by have := t6.1; omega, by show _ ≤ (40 : Int); omega⟩
  · intro k hk
    have hk : (k : Int) < (m.1 4 + 1).toInt := hk
    obtain ⟨n, hnn⟩ : ∃ n, n = (m.1 4).toNatClampNeg := ⟨_, rfl⟩
    show 0 ≤ (upd (m.2 10) (m.1 4).toNatClampNeg b k).toInt ∧ (upd (m.2 10) (m.1 4).toNatClampNeg b k).toInt < (m.1 2).toInt ∧ (m.2 6 (upd (m.2 10) (m.1 4).toNatClampNeg b k).toNatClampNeg).toInt = -1 ∧ 0 ≤ (upd (m.2 11) (m.1 4).toNatClampNeg p k).toInt ∧ (upd (m.2 11) (m.1 4).toNatClampNeg p k).toInt < (m.1 1).toInt ∧ 0 ≤ (upd (m.2 12) (m.1 4).toNatClampNeg a k).toInt ∧ (upd (m.2 12) (m.1 4).toNatClampNeg a k).toInt < (upd (m.2 13) (m.1 4).toNatClampNeg e k).toInt ∧ (upd (m.2 13) (m.1 4).toNatClampNeg e k).toInt ≤ 400
    rw [← hnn]
    rw [← hnn] at hc
    by_cases c : k = n
    · rw [c, pk_us, pk_us, pk_us, pk_us]
      exact ⟨hb.1, hb.2, hh, hp.1, hp.2, hae.1, hae.2.1, hae.2.2⟩
    · rw [pk_un c, pk_un c, pk_un c, pk_un c]
      exact t7 k (by omega)
theorem hasStay_says {x m : MS} (hT : JT x m) (b : Int32) {a e : Nat} (ha : a < 2 ^ 31) (he : e < 2 ^ 31) : Says (f_Md_hasStay b (nI a) (nI e) m) (∃ s : Nat, (s : Int) < (m.1 4).toInt ∧ m.2 10 s = b ∧ Ov m s a e) := by
  obtain ⟨t1, t2, t3, t4, t5, t6, t7⟩ := hT
  have t62 := t6.2
  have hc := cl_ti t6.1
  have hn : m.1 4 = nI (m.1 4).toNatClampNeg := cnt_nI t6.1
  obtain ⟨n, hnn⟩ : ∃ n, n = (m.1 4).toNatClampNeg := ⟨_, rfl⟩
  rw [← hnn] at hc hn
  have hai : (nI a).toInt = (a : Int) := nI_toInt ha
  have hei : (nI e).toInt = (e : Int) := nI_toInt he
  have key : ∀ k : Nat, k < n → ¬ m.1 4 ≤ nI k ∧ inb (nI k) 40 = true ∧ (nI k).toNatClampNeg = k := fun k hk => ⟨by rw [hn]; exact nI_ge hk (by omega), inb_iff.mpr ⟨by rw [nI_toInt (by omega)]; omega, by rw [nI_toInt (by omega)]; show _ < (40 : Int); omega⟩, nI_clamp (by omega)⟩
  have hl := loop_first (f := fun z => Md_hasStay_l3 b (nI a) (nI e) m z) (fun s => m.2 10 s = b ∧ Ov m s a e) (fun _ => (1 : Int32)) 0 n (by
      show Md_hasStay_l3 b (nI a) (nI e) m (nI n) = _
      unfold Md_hasStay_l3
      rw [if_pos (by rw [hn]; exact Int32.le_refl _)]
      rfl) n 0 (by omega) (fun k _ hk c => by
      show Md_hasStay_l3 b (nI a) (nI e) m (nI k) = _
      obtain ⟨k1, k2, k3⟩ := key k hk
      unfold Md_hasStay_l3
      simp only [if_neg k1, chk_t k2, bnd_eq, k3, nI_1]
      by_cases c1 : m.2 10 k = b
      · rw [if_pos c1]
        by_cases c2 : nI e ≤ m.2 12 k
        · rw [if_pos c2]
        · rw [if_neg c2]
          have c3 : m.2 13 k ≤ nI a := by
            rw [fa_le, hei] at c2
            rw [fa_le, hai]
            exact Classical.byContradiction fun q => c ⟨c1, by omega, by omega⟩
          rw [if_pos c3]
      · rw [if_neg c1]) (fun k _ hk c => by
      show Md_hasStay_l3 b (nI a) (nI e) m (nI k) = _
      obtain ⟨k1, k2, k3⟩ := key k hk
      obtain ⟨c1, c2, c3⟩ := c
      have d2 : ¬ nI e ≤ m.2 12 k := by rw [fa_le, hei]; omega
      have d3 : ¬ m.2 13 k ≤ nI a := by rw [fa_le, hai]; omega
      unfold Md_hasStay_l3
      simp only [if_neg k1, chk_t k2, bnd_eq, k3, nI_1]
      rw [if_pos c1, if_neg d2, if_neg d3]
      rfl)
  rw [nI_0] at hl
  rcases hl with ⟨h1, h2⟩ | ⟨s, h1, h2, h3, h4, h5⟩
  · exact ⟨fun ⟨s, q1, q2⟩ => absurd q2 (h1 s (Nat.zero_le s) (by omega)), fun _ => h2⟩
  · exact ⟨fun _ => h5, fun q => absurd ⟨s, by omega, h3⟩ q⟩
/-- nobody at home at a berth, no stay there, on any night of a .. e - 1 -/
def NoOwner (m : MS) (p a e : Nat) : Prop := ¬ ∃ k : Nat, (k : Int) < (m.1 2).toInt ∧ (m.2 6 k).toInt = (p : Int) ∧ ∃ d, a ≤ d ∧ d < e ∧ ¬ Aw m (nI k) d
def NoStay (m : MS) (p a e : Nat) : Prop := ∀ s : Nat, (s : Int) < (m.1 4).toInt → ¬ (m.2 11 s = nI p ∧ Ov m s a e)
theorem canLie_says {x m : MS} (h : Inv x m) {k p a e : Nat} (hk : (k : Int) < (m.1 2).toInt) (hp : (p : Int) < (m.1 1).toInt) (hae : a < e) (he : e ≤ 400) : Says (f_Hb_canLie (nI k) (nI p) (nI a) (nI e) x) (Fit m (m.2 3 k) (m.2 4 k) p a e ∧ NoOwner m p a e) := by
  obtain ⟨hL, hB, hO, hH, hS, hT, hK, hC, hW, hP, hR, hU⟩ := id h
  have g1 := fan_says hL hB hO hk hp hae he
  have g2 := owner_says h hp hae he
  unfold f_Hb_canLie
  by_cases c1 : Fit m (m.2 3 k) (m.2 4 k) p a e
  · rw [g1.1 c1, Option.bind_some, if10]
    refine ⟨fun q => ?_, fun q => ?_⟩
    · rw [g2.2 q.2]
      rfl
    · rw [g2.1 (Classical.byContradiction fun z => q ⟨c1, z⟩)]
      rfl
  · rw [g1.2 c1]
    exact ⟨fun q => absurd q.1 c1, fun _ => rfl⟩
theorem isEmpty_says {x m : MS} (h : Inv x m) {p a e : Nat} (hp : (p : Int) < (m.1 1).toInt) (hae : a < e) (he : e ≤ 400) : Says (f_Md_isEmpty (nI p) (nI a) (nI e) m) (NoOwner m p a e ∧ NoStay m p a e) := by
  obtain ⟨hL, hB, hO, hH, hS, hT, hK, hC, hW, hP, hR, hU⟩ := id h
  have b42 : (m.1 1).toInt ≤ 10 := hB.2.2.2.1.2
  have o62 : (m.1 2).toInt ≤ 30 := hO.2.2.2.2.2.1.2
  have t7 := hT.2.2.2.2.2.2
  have hl := loop_first (f := fun z => Md_isEmpty_l3 (nI p) (nI e) m z) (fun d => (∃ k : Nat, (k : Int) < (m.1 2).toInt ∧ (m.2 6 k).toInt = (p : Int) ∧ ¬ Aw m (nI k) d) ∨ ∃ s : Nat, (s : Int) < (m.1 4).toInt ∧ m.2 11 s = nI p ∧ Ov m s d (d + 1)) (fun _ => (0 : Int32)) 1 e (by
      show Md_isEmpty_l3 (nI p) (nI e) m (nI e) = _
      unfold Md_isEmpty_l3
      rw [if_pos (Int32.le_refl _)]
      rfl) (e - a) a (by omega) (fun d h1 h2 c => by
      show Md_isEmpty_l3 (nI p) (nI e) m (nI d) = _
      have n1 : ¬ nI e ≤ nI d := nI_ge h2 (by omega)
      unfold Md_isEmpty_l3
      rcases at_eq hO hS hT (p := p) (d := d) (by omega) (by omega) with ⟨k, q1, q2, q3, q4⟩ | ⟨q1, ⟨g1, g2⟩ | ⟨s, g1, g2, g3, g4, g5⟩⟩
      · exact absurd (Or.inl ⟨k, q1, q2, q3⟩) c
      · rw [if_neg n1, g2, Option.bind_some, if_pos (by decide), bnd_eq, nI_1]
      · exact absurd (Or.inr ⟨s, g1, g2, g3⟩) c) (fun d h1 h2 c => by
      show Md_isEmpty_l3 (nI p) (nI e) m (nI d) = _
      have n1 : ¬ nI e ≤ nI d := nI_ge h2 (by omega)
      unfold Md_isEmpty_l3
      rcases at_eq hO hS hT (p := p) (d := d) (by omega) (by omega) with ⟨k, q1, q2, q3, q4⟩ | ⟨q1, ⟨g1, g2⟩ | ⟨s, g1, g2, g3, g4, g5⟩⟩
      · have n2 : ¬ nI k < 0 := nI_pos (by omega)
        rw [if_neg n1, q4, Option.bind_some, if_neg n2]
        rfl
      · rcases c with ⟨k, z1, z2, z3⟩ | ⟨s, z1, z2, z3⟩
        · exact absurd ⟨z2, z3⟩ (q1 k z1)
        · exact absurd ⟨z2, z3⟩ (g1 s z1)
      · have n2 : ¬ m.2 10 s < 0 := by rw [fa_lt]; show ¬ _ < (0 : Int); have := (t7 s g1).1; omega
        rw [if_neg n1, g5, Option.bind_some, if_neg n2]
        rfl)
  have hov : ∀ s : Nat, (s : Int) < (m.1 4).toInt → Ov m s a e → ∃ d, a ≤ d ∧ d < e ∧ Ov m s d (d + 1) := by
    intro s hs ho
    have r := t7 s hs
    obtain ⟨w1, w2⟩ := ho
    by_cases c : (m.2 12 s).toInt ≤ (a : Int)
    · exact ⟨a, Nat.le_refl a, hae, by omega, by omega⟩
    · have h8 : 0 ≤ (m.2 12 s).toInt := r.2.2.2.2.2.1
      have h9 := cl_ti h8
      exact ⟨(m.2 12 s).toNatClampNeg, by omega, by omega, by omega, by omega⟩
  have hov2 : ∀ (s d : Nat), a ≤ d → d < e → Ov m s d (d + 1) → Ov m s a e := fun s d h1 h2 h3 => ⟨by have := h3.1; omega, by have := h3.2; omega⟩
  rcases hl with ⟨h1, h2⟩ | ⟨d, h1, h2, h3, h4, h5⟩
  · refine ⟨fun _ => h2, fun q => absurd ⟨?_, ?_⟩ q⟩
    · rintro ⟨k, z1, z2, d, z3, z4, z5⟩
      exact h1 d z3 z4 (Or.inl ⟨k, z1, z2, z5⟩)
    · rintro s hs ⟨z1, z2⟩
      obtain ⟨d, d1, d2, d3⟩ := hov s hs z2
      exact h1 d d1 d2 (Or.inr ⟨s, hs, z1, d3⟩)
  · refine ⟨fun q => ?_, fun _ => h5⟩
    rcases h3 with ⟨k, z1, z2, z3⟩ | ⟨s, z1, z2, z3⟩
    · exact absurd ⟨k, z1, z2, d, h1, h2, z3⟩ q.1
    · exact absurd ⟨z2, hov2 s d h1 h2 z3⟩ (q.2 s z1)
