-- ===== the reference's search of the shed: one way's moves =====
def MH (s : MS) (n lanes : Nat) (room : Int) (len out : Nat → Int32) : Prop := s.1 18 = nI n ∧ n ≤ 9 ∧ s.1 16 = nI lanes ∧ 1 ≤ lanes ∧ lanes ≤ 4 ∧ (s.1 17).toInt = room ∧ (∀ k, k < n → 0 ≤ (s.2 25 k).toInt ∧ (s.2 25 k).toInt < 30 ∧ s.2 3 (s.2 25 k).toNatClampNeg = len k ∧ 10 ≤ (len k).toInt ∧ (len k).toInt ≤ 400) ∧ s.2 26 = out
def CU (s : MS) (n lanes : Nat) (c : Nat → Nat) : Prop := (∀ k, k < n → s.2 27 k = nI (c k)) ∧ sh_ok n lanes c
theorem l90_eq {s : MS} {n lanes : Nat} {room : Int} {len out : Nat → Int32} {c : Nat → Nat} (h : MH s n lanes room len out) (hc : CU s n lanes c) {k : Nat} (hk : k < n) {b : Int32} (hb : 0 ≤ b.toInt ∧ b.toInt ≤ 100) : ∃ r, loop (fun z => Md_movesOf_l90 (nI k) s z.1 z.2) (b, (0 : Int32)) = some r ∧ ∃ v : Int32, r = .inl (v, nI (k + 1)) ∧ v.toInt = b.toInt + sh_by out c k := by
  obtain ⟨h1, h2, h3, h4, h5, h6, h7, h8⟩ := h
  have hck := hc.2 k hk
  have h9k : inb (nI k) 9 = true := ib_nI (by omega) (by omega)
  refine loop_inv (f := fun z => Md_movesOf_l90 (nI k) s z.1 z.2) (fun j z => z.1.toInt = b.toInt + si (fun j => if c j = c k ∧ (out j).toInt < (out k).toInt then (1 : Int) else 0) j ∧ z.2 = nI j) (fun r => ∃ v : Int32, r = .inl (v, nI (k + 1)) ∧ v.toInt = b.toInt + sh_by out c k) k ?_ ?_ k 0 (b, (0 : Int32)) (by omega) ⟨by show b.toInt = b.toInt + 0; omega, nI_0.symm⟩
  · rintro j ⟨x1, x3⟩ hj ⟨g1, g2⟩
    have g1 : x1.toInt = b.toInt + si (fun j => if c j = c k ∧ (out j).toInt < (out k).toInt then (1 : Int) else 0) j := g1
    have g2 : x3 = nI j := g2
    have hr := si_rng (f := fun j => if c j = c k ∧ (out j).toInt < (out k).toInt then (1 : Int) else 0) (c := 1) (n := j) (fun i hi => by
      show 0 ≤ (if c i = c k ∧ (out i).toInt < (out k).toInt then (1 : Int) else 0) ∧ (if c i = c k ∧ (out i).toInt < (out k).toInt then (1 : Int) else 0) ≤ 1
      by_cases q : c i = c k ∧ (out i).toInt < (out k).toInt
      · rw [if_pos q]; omega
      · rw [if_neg q]; omega)
    have hcj := hc.2 j (by omega)
    have n1 : ¬ nI k ≤ nI j := nI_ge hj (by omega)
    have h9j : inb (nI j) 9 = true := ib_nI (by omega) (by omega)
    have e0 : x1 + 0 = x1 := Int32.add_zero x1
    show ∃ s', Md_movesOf_l90 (nI k) s x1 x3 = some (.inl s') ∧ s'.1.toInt = b.toInt + (si (fun j => if c j = c k ∧ (out j).toInt < (out k).toInt then (1 : Int) else 0) j + (if c j = c k ∧ (out j).toInt < (out k).toInt then (1 : Int) else 0)) ∧ s'.2 = nI (j + 1)
    rw [g2]
    unfold Md_movesOf_l90
    rw [if_neg n1]
    simp only [chk_t h9j, chk_t h9k, bnd_eq, nI_clamp (show j < 2 ^ 31 by omega), nI_clamp (show k < 2 ^ 31 by omega), nI_1, e0, h8]
    rw [hc.1 j (by omega), hc.1 k hk]
    by_cases q1 : c j = c k
    · rw [if_pos (by rw [q1] : nI (c j) = nI (c k))]
      by_cases q2 : out k ≤ out j
      · rw [if_pos q2]
        rw [fa_le] at q2
        refine ⟨_, rfl, ?_, rfl⟩
        show x1.toInt = _
        rw [if_neg (fun q => by omega)]
        omega
      · rw [if_neg q2]
        rw [fa_le] at q2
        refine ⟨_, rfl, ?_, rfl⟩
        show (x1 + 1).toInt = _
        rw [if_pos ⟨q1, by omega⟩, add1 (by omega)]
        omega
    · rw [if_neg (fun q => q1 ((nI_eq (by omega) (by omega)).mp q))]
      refine ⟨_, rfl, ?_, rfl⟩
      show x1.toInt = _
      rw [if_neg (fun q => q1 q.1)]
      omega
  · rintro ⟨x1, x3⟩ ⟨g1, g2⟩
    have g2 : x3 = nI k := g2
    refine ⟨.inl (x1, nI (k + 1)), ?_, x1, rfl, g1⟩
    show Md_movesOf_l90 (nI k) s x1 x3 = _
    unfold Md_movesOf_l90
    rw [g2, if_pos (Int32.le_refl _), bnd_eq, nI_1]
    rfl
theorem l80_eq {s : MS} {n lanes : Nat} {room : Int} {len out : Nat → Int32} {c : Nat → Nat} (h : MH s n lanes room len out) (hc : CU s n lanes c) : ∃ v : Int32, loop (fun z => Md_movesOf_l80 s z.1 z.2) ((0 : Int32), (0 : Int32)) = some v ∧ v.toInt = sh_mv out c n := by
  obtain ⟨h1, h2, -⟩ := id h
  refine loop_inv (f := fun z => Md_movesOf_l80 s z.1 z.2) (fun k z => z.1.toInt = sh_mv out c k ∧ z.2 = nI k) (fun v => v.toInt = sh_mv out c n) n ?_ ?_ n 0 ((0 : Int32), (0 : Int32)) (by omega) ⟨rfl, nI_0.symm⟩
  · rintro k ⟨x1, x2⟩ hk ⟨g1, g2⟩
    have g1 : x1.toInt = sh_mv out c k := g1
    have g2 : x2 = nI k := g2
    have hr := mv_rng out c (n := k) (by omega)
    obtain ⟨r, r1, v, r2, r3⟩ := l90_eq h hc hk (b := x1) (by omega)
    show ∃ s', Md_movesOf_l80 s x1 x2 = some (.inl s') ∧ s'.1.toInt = sh_mv out c k + sh_by out c k ∧ s'.2 = nI (k + 1)
    unfold Md_movesOf_l80
    rw [h1, g2, if_neg (nI_ge hk (by omega)), r1, r2]
    exact ⟨_, rfl, by show v.toInt = _; omega, rfl⟩
  · rintro ⟨x1, x2⟩ ⟨g1, g2⟩
    have g2 : x2 = nI n := g2
    refine ⟨x1, ?_, g1⟩
    show Md_movesOf_l80 s x1 x2 = _
    unfold Md_movesOf_l80
    rw [h1, g2, if_pos (Int32.le_refl _)]
    rfl
theorem l17_eq {s : MS} {n lanes : Nat} {room : Int} {len out : Nat → Int32} {c : Nat → Nat} (h : MH s n lanes room len out) (hc : CU s n lanes c) {l : Nat} (hl : l < 4) (b : Int32) : ∃ r, loop (fun z => Md_movesOf_l17 b (nI l) s z.1 z.2) ((0 : Int32), (0 : Int32)) = some r ∧ ((sh_use len c l n ≤ room ∧ r = .inl (nI (l + 1))) ∨ (¬ sh_use len c l n ≤ room ∧ r = .inr (-1))) := by
  obtain ⟨h1, h2, h3, h4, h5, h6, h7, h8⟩ := h
  refine loop_inv (f := fun z => Md_movesOf_l17 b (nI l) s z.1 z.2) (fun k z => z.1.toInt = sh_use len c l k ∧ z.2 = nI k) (fun r => (sh_use len c l n ≤ room ∧ r = .inl (nI (l + 1))) ∨ (¬ sh_use len c l n ≤ room ∧ r = .inr (-1))) n ?_ ?_ n 0 ((0 : Int32), (0 : Int32)) (by omega) ⟨rfl, nI_0.symm⟩
  · rintro k ⟨x3, x4⟩ hk ⟨g1, g2⟩
    have g1 : x3.toInt = sh_use len c l k := g1
    have g2 : x4 = nI k := g2
    have hr : 0 ≤ sh_use len c l k ∧ sh_use len c l k ≤ 400 * (k : Int) := si_rng (f := fun j => if c j = l then (len j).toInt else 0) (c := 400) (n := k) (fun i hi => by
      obtain ⟨-, -, -, p4, p5⟩ := h7 i (by omega)
      show 0 ≤ (if c i = l then (len i).toInt else 0) ∧ (if c i = l then (len i).toInt else 0) ≤ 400
      by_cases q : c i = l
      · rw [if_pos q]; omega
      · rw [if_neg q]; omega)
    have hck := hc.2 k (by omega)
    obtain ⟨p1, p2, p3, p4, p5⟩ := h7 k hk
    have h9k : inb (nI k) 9 = true := ib_nI (by omega) (by omega)
    have h30 : inb (s.2 25 k) 30 = true := inb_iff.mpr ⟨p1, p2⟩
    have e0 : x3 + 0 = x3 := Int32.add_zero x3
    show ∃ s', Md_movesOf_l17 b (nI l) s x3 x4 = some (.inl s') ∧ s'.1.toInt = sh_use len c l k + (if c k = l then (len k).toInt else 0) ∧ s'.2 = nI (k + 1)
    rw [g2]
    unfold Md_movesOf_l17
    rw [h1, if_neg (nI_ge hk (by omega))]
    simp only [chk_t h9k, bnd_eq, nI_clamp (show k < 2 ^ 31 by omega), nI_1, e0, chk_t h30, p3]
    rw [hc.1 k hk]
    by_cases q1 : c k = l
    · rw [if_pos (by rw [q1] : nI (c k) = nI l), if_pos q1]
      refine ⟨_, rfl, ?_, rfl⟩
      show (x3 + len k).toInt = _
      rw [fb_addI (by omega) (by omega), g1]
    · rw [if_neg (fun q => q1 ((nI_eq (by omega) (by omega)).mp q)), if_neg q1]
      refine ⟨_, rfl, ?_, rfl⟩
      show x3.toInt = _
      omega
  · rintro ⟨x3, x4⟩ ⟨g1, g2⟩
    have g1 : x3.toInt = sh_use len c l n := g1
    have g2 : x4 = nI n := g2
    show ∃ r, Md_movesOf_l17 b (nI l) s x3 x4 = some (.inr r) ∧ _
    unfold Md_movesOf_l17
    rw [h1, g2, if_pos (Int32.le_refl _)]
    by_cases q : x3 ≤ s.1 17
    · rw [if_pos q, bnd_eq, nI_1]
      rw [fa_le, h6, g1] at q
      exact ⟨_, rfl, Or.inl ⟨q, rfl⟩⟩
    · rw [if_neg q]
      rw [fa_le, h6, g1] at q
      exact ⟨_, rfl, Or.inr ⟨q, rfl⟩⟩
theorem mof_eq {s : MS} {n lanes : Nat} {room : Int} {len out : Nat → Int32} {c : Nat → Nat} (h : MH s n lanes room len out) (hc : CU s n lanes c) : ∃ v : Int32, f_Md_movesOf s = some v ∧ ((sh_fit n lanes room len c ∧ v.toInt = sh_mv out c n) ∨ (¬ sh_fit n lanes room len c ∧ v = -1)) := by
  obtain ⟨h1, h2, h3, h4, h5, h6, h7, h8⟩ := id h
  obtain ⟨v, v1, v2⟩ := l80_eq h hc
  unfold f_Md_movesOf
  rw [show (fun z => Md_movesOf_l4 (0 : Int32) s z) = (fun z => Md_movesOf_l4 (0 : Int32) s z) from rfl]
  have hstep : ∀ l, l < lanes → (sh_use len c l n ≤ room → Md_movesOf_l4 0 s (nI l) = some (.inl (nI (l + 1)))) ∧ (¬ sh_use len c l n ≤ room → Md_movesOf_l4 0 s (nI l) = some (.inr (-1))) := by
    intro l hl
    obtain ⟨r, r1, r2⟩ := l17_eq h hc (l := l) (by omega) 0
    unfold Md_movesOf_l4
    rw [h3, if_neg (nI_ge hl (by omega)), r1]
    rcases r2 with ⟨q1, q2⟩ | ⟨q1, q2⟩
    · exact ⟨fun _ => by rw [q2], fun q => absurd q1 q⟩
    · exact ⟨fun q => absurd q q1, fun _ => by rw [q2]⟩
  have hl0 : loop (fun z => Md_movesOf_l4 (0 : Int32) s z) (0 : Int32) = loop (fun z => Md_movesOf_l4 (0 : Int32) s z) (nI 0) := by rw [nI_0]
  rw [hl0]
  rcases loop_first (f := fun z => Md_movesOf_l4 (0 : Int32) s z) (fun l => ¬ sh_use len c l n ≤ room) (fun _ => (-1 : Int32)) v lanes (by
      show Md_movesOf_l4 (0 : Int32) s (nI lanes) = _
      unfold Md_movesOf_l4
      rw [h3, if_pos (Int32.le_refl _), v1]
      rfl) lanes 0 (by omega) (fun l z1 z2 z3 => (hstep l z2).1 (Classical.not_not.mp z3)) (fun l z1 z2 z3 => (hstep l z2).2 z3) with ⟨z1, z2⟩ | ⟨d, z1, z2, z3, z4, z5⟩
  · exact ⟨v, z2, Or.inl ⟨fun l hl => Classical.not_not.mp (z1 l (by omega) hl), v2⟩⟩
  · exact ⟨-1, z5, Or.inr ⟨fun q => z3 (q d z2), rfl⟩⟩
