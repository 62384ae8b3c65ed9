-- ===== tokens =====
theorem fa_or (a b : Nat) : nI a ||| nI b = nI (a ||| b) := by
  apply Int32.toBitVec_inj.1
  show BitVec.ofNat 32 a ||| BitVec.ofNat 32 b = BitVec.ofNat 32 (a ||| b)
  apply BitVec.eq_of_getLsbD_eq
  intro i hi
  simp [hi]
theorem fa_or_sum {a k : Nat} (b : Nat) (h : a < 2 ^ k) : nI (2 ^ k * b) ||| nI a = nI (2 ^ k * b + a) := by rw [fa_or, Nat.two_pow_add_eq_or_of_lt h]
/-- the class's kind of a token, by the reference's -/
def kc (k : Nat) : Int32 := if k = 0 then 0 else if k = 1 then 102 else if k = 2 then 110 else if k = 3 then 100 else if k = 4 then 48 else if k = 5 then 26982 else if k = 6 then 1952998766 else if k = 7 then 1701606245 else if k = 8 then 40 else if k = 9 then 41 else if k = 10 then 43 else if k = 11 then 45 else if k = 12 then 42 else if k = 13 then 47 else if k = 14 then 37 else if k = 15 then 60 else if k = 16 then 61 else 1
def sgn (c : Nat) : Nat := if c = 37 then 14 else if c = 40 then 8 else if c = 41 then 9 else if c = 42 then 12 else if c = 43 then 10 else if c = 45 then 11 else if c = 47 then 13 else if c = 60 then 15 else if c = 61 then 16 else 17
def isD (c : Nat) : Bool := decide (48 ≤ c) && decide (c ≤ 57)
def isL (c : Nat) : Bool := (decide (97 ≤ c) && decide (c ≤ 122)) || (decide (65 ≤ c) && decide (c ≤ 90))
theorem sign_ok : ∀ c, c < 256 → f_Md_signOf (nI c) = some (nI (sgn c)) ∧ f_Reader_isSign (nI c) = some (if sgn c = 17 then 0 else 1) ∧ (sgn c = 17 ∨ nI c = kc (sgn c)) ∧ sgn c ≤ 17 ∧ sgn c ≠ 4 := by decide +kernel
theorem dig_ok : ∀ c, c < 256 → f_Md_isDigit (nI c) = some (if isD c = true then 1 else 0) ∧ f_Reader_isDigit (nI c) = some (if isD c = true then 1 else 0) := by decide +kernel
theorem let_ok : ∀ c, c < 256 → f_Md_isLetter (nI c) = some (if isL c = true then 1 else 0) ∧ f_Reader_isLetter (nI c) = some (if isL c = true then 1 else 0) := by decide +kernel
theorem dig_m1 : f_Md_isDigit (-1) = some 0 := by decide +kernel
theorem let_m1 : f_Md_isLetter (-1) = some 0 := by decide +kernel
theorem isD_iff {c : Nat} : isD c = true ↔ 48 ≤ c ∧ c ≤ 57 := by
  unfold isD
  rw [Bool.and_eq_true, decide_eq_true_iff, decide_eq_true_iff]
theorem isL_iff {c : Nat} : isL c = true ↔ (97 ≤ c ∧ c ≤ 122) ∨ (65 ≤ c ∧ c ≤ 90) := by
  unfold isL
  rw [Bool.or_eq_true, Bool.and_eq_true, Bool.and_eq_true, decide_eq_true_iff, decide_eq_true_iff, decide_eq_true_iff, decide_eq_true_iff]
theorem word_ok (w : Int32) : ∃ k, k ≤ 17 ∧ k ≠ 4 ∧ f_Md_wordOf w = some (nI k) ∧ ((k = 17 ∧ f_Reader_isWord w = some 0) ∨ (k ≠ 17 ∧ f_Reader_isWord w = some 1 ∧ w = kc k)) := by
  by_cases e1 : w = 102
  · rw [e1]; exact ⟨1, by decide, by decide, by decide +kernel, Or.inr ⟨by decide, by decide +kernel, by decide +kernel⟩⟩
  · by_cases e2 : w = 110
    · rw [e2]; exact ⟨2, by decide, by decide, by decide +kernel, Or.inr ⟨by decide, by decide +kernel, by decide +kernel⟩⟩
    · by_cases e3 : w = 100
      · rw [e3]; exact ⟨3, by decide, by decide, by decide +kernel, Or.inr ⟨by decide, by decide +kernel, by decide +kernel⟩⟩
      · by_cases e4 : w = 26982
        · rw [e4]; exact ⟨5, by decide, by decide, by decide +kernel, Or.inr ⟨by decide, by decide +kernel, by decide +kernel⟩⟩
        · by_cases e5 : w = 1952998766
          · rw [e5]; exact ⟨6, by decide, by decide, by decide +kernel, Or.inr ⟨by decide, by decide +kernel, by decide +kernel⟩⟩
          · by_cases e6 : w = 1701606245
            · rw [e6]; exact ⟨7, by decide, by decide, by decide +kernel, Or.inr ⟨by decide, by decide +kernel, by decide +kernel⟩⟩
            · refine ⟨17, by decide, by decide, ?_, Or.inl ⟨rfl, ?_⟩⟩
              · unfold f_Md_wordOf
                rw [if_neg e1, if_neg e2, if_neg e3, if_neg e4, if_neg e5, if_neg e6]
                rfl
              · unfold f_Reader_isWord
                rw [bnd_eq, if_neg e3, if_neg e1, if_neg e2, if_neg e4, if_neg e6, if_neg e5]
theorem pf_same {s : MS} {i : Nat} {v : Int32} (h : s.1 i = v) : pf s i v = s := Prod.ext (funext fun j => by
  show (if j = i then v else s.1 j) = s.1 j
  by_cases e : j = i
  · rw [if_pos e, e, h]
  · rw [if_neg e]) rfl
theorem pf4 (s : MS) {i j : Nat} (h : i ≠ j) (a b c d : Int32) : pf (pf (pf (pf s i a) j b) i c) j d = pf (pf s i c) j d := Prod.ext (funext fun k => by
  show (if k = j then d else if k = i then c else if k = j then b else if k = i then a else s.1 k) = if k = j then d else if k = i then c else s.1 k
  by_cases e : k = j
  · rw [if_pos e, if_pos e]
  · by_cases e2 : k = i
    · rw [if_neg e, if_pos e2, if_neg e, if_pos e2]
    · rw [if_neg e, if_neg e2, if_neg e, if_neg e2, if_neg e, if_neg e2]) rfl
theorem pf_ne (s : MS) {i j : Nat} (v : Int32) (h : j ≠ i) : (pf s i v).1 j = s.1 j := if_neg h
def TP (x m : MS) (N : Nat) : Prop := x.1 18 = nI N ∧ m.1 19 = nI N ∧ N ≤ 200 ∧ x.2 37 = m.2 29 ∧ ∀ k, ∃ c, c < 256 ∧ m.2 29 k = nI c
def TX (x y : MS) : Prop := (∀ j, ¬ (22 ≤ j ∧ j ≤ 25) → y.1 j = x.1 j) ∧ y.2 = x.2
def TM (m y : MS) : Prop := (∀ j, ¬ (20 ≤ j ∧ j ≤ 23) → y.1 j = m.1 j) ∧ y.2 = m.2
theorem tx_pf {x y : MS} (h : TX x y) {i : Nat} {v : Int32} (hi : 22 ≤ i ∧ i ≤ 25) : TX x (pf y i v) := ⟨fun j hj => (pf_ne y v (by omega)).trans (h.1 j hj), h.2⟩
theorem tm_pf {x y : MS} (h : TM x y) {i : Nat} {v : Int32} (hi : 20 ≤ i ∧ i ≤ 23) : TM x (pf y i v) := ⟨fun j hj => (pf_ne y v (by omega)).trans (h.1 j hj), h.2⟩
/-- the same token on both sides, of kind k -/
def TS (N : Nat) (x m : MS) (k : Nat) : Prop := x.1 22 = m.1 21 ∧ (∃ a, a ≤ N ∧ m.1 20 = nI a ∧ x.1 23 = nI a) ∧ k ≤ 17 ∧ m.1 22 = nI k ∧ x.1 24 = kc k ∧ (k = 4 → ∃ v, v < 1000000 ∧ m.1 23 = nI v ∧ x.1 25 = nI (if v < 100000 then v else 100000))
theorem see_lt {m : MS} {N k : Nat} (h : m.1 19 = nI N) (hN : N ≤ 200) (hk : k < N) : f_Md_see (nI k) m = some (m.2 29 k) := by
  unfold f_Md_see
  rw [h, if_neg (nI_ge hk (by omega)), chk_t (ib_nI (by omega) (by omega)), bnd_eq, nI_clamp (by omega)]
theorem see_ge {m : MS} {N k : Nat} (h : m.1 19 = nI N) (hN : N ≤ k) (hk : k < 2 ^ 31) : f_Md_see (nI k) m = some (-1) := by
  unfold f_Md_see
  rw [h, if_pos (nI_le hN hk)]
def rvn (f : Nat → Nat) (b : Nat) : Nat → Nat
  | 0 => 0
  | k + 1 => if rvn f b k < 100000 then 10 * rvn f b k + f (b + k) - 48 else rvn f b k
def cap (v : Nat) : Nat := if v < 100000 then v else 100000
theorem rvn_lt {f : Nat → Nat} {b : Nat} : ∀ {k : Nat}, (∀ i, i < k → isD (f (b + i)) = true) → rvn f b k < 1000000
  | 0, _ => by show 0 < 1000000; omega
  | k + 1, h => by
    have ih := rvn_lt (f := f) (b := b) (k := k) (fun i hi => h i (by omega))
    have hd := isD_iff.mp (h k (by omega))
    show (if rvn f b k < 100000 then 10 * rvn f b k + f (b + k) - 48 else rvn f b k) < 1000000
    by_cases c : rvn f b k < 100000
    · rw [if_pos c]; omega
    · rw [if_neg c]; exact ih
theorem num_x {x : MS} {N b L : Nat} {f : Nat → Nat} (h18 : x.1 18 = nI N) (hN : N ≤ 200) (h23 : x.1 23 = nI b) (h25 : x.1 25 = 0) (hf : ∀ k, x.2 37 k = nI (f k) ∧ f k < 256) (hb : b + L ≤ N) (hd : ∀ i, i < L → isD (f (b + i)) = true) (he : N ≤ b + L ∨ isD (f (b + L)) = false) : loop (fun z => Reader_comeToNumber_l11 z) x = some (pf (pf x 25 (nI (cap (rvn f b L)))) 23 (nI (b + L))) := by
  have h0 : x = (fun k : Nat => pf (pf x 25 (nI (cap (rvn f b k)))) 23 (nI (b + k))) 0 := by
    show x = pf (pf x 25 (nI 0)) 23 (nI b)
    rw [pf_same (s := x) (i := 25) (h25.trans nI_0.symm), pf_same h23]
  conv => lhs; rw [h0]
  refine loop_up (f := fun z => Reader_comeToNumber_l11 z) (fun k : Nat => pf (pf x 25 (nI (cap (rvn f b k)))) 23 (nI (b + k))) L _ (fun k hk => ?_) ?_
  · show Reader_comeToNumber_l11 (pf (pf x 25 (nI (cap (rvn f b k)))) 23 (nI (b + k))) = some (.inl (pf (pf x 25 (nI (cap (rvn f b (k + 1))))) 23 (nI (b + (k + 1)))))
    have hdk := hd k hk
    have hdr := isD_iff.mp hdk
    have hrv := rvn_lt (f := f) (b := b) (k := k) (fun i hi => hd i (by omega))
    obtain ⟨f1, f2⟩ := hf (b + k)
    have e18 : (pf (pf x 25 (nI (cap (rvn f b k)))) 23 (nI (b + k))).1 18 = nI N := h18
    have e23 : (pf (pf x 25 (nI (cap (rvn f b k)))) 23 (nI (b + k))).1 23 = nI (b + k) := pf_at _ _ _
    have e25 : (pf (pf x 25 (nI (cap (rvn f b k)))) 23 (nI (b + k))).1 25 = nI (cap (rvn f b k)) := (pf_ne _ _ (by omega)).trans (pf_at _ _ _)
    have e37 : (pf (pf x 25 (nI (cap (rvn f b k)))) 23 (nI (b + k))).2 37 = x.2 37 := rfl
    have hcap : cap (rvn f b k) ≤ 100000 := by
      unfold cap
      by_cases c : rvn f b k < 100000
      · rw [if_pos c]; omega
      · rw [if_neg c]; omega
    have hval : nI (cap (rvn f b k)) * (10 : Int32) + nI (f (b + k)) - (48 : Int32) = nI (cap (rvn f b k) * 10 + f (b + k) - 48) := by
      rw [show (10 : Int32) = nI 10 from rfl, show (48 : Int32) = nI 48 from rfl, pk_mul, nI_add, pk_sub (by omega)]
    have hnew : (if (100000 : Int32) < nI (cap (rvn f b k) * 10 + f (b + k) - 48) then (100000 : Int32) else nI (cap (rvn f b k) * 10 + f (b + k) - 48)) = nI (cap (rvn f b (k + 1))) := by
      rw [show (100000 : Int32) = nI 100000 from rfl]
      show _ = nI (cap (if rvn f b k < 100000 then 10 * rvn f b k + f (b + k) - 48 else rvn f b k))
      by_cases c : rvn f b k < 100000
      · rw [if_pos c]
        have e1 : cap (rvn f b k) = rvn f b k := if_pos c
        rw [e1]
        unfold cap
        by_cases c2 : 100000 < rvn f b k * 10 + f (b + k) - 48
        · rw [if_pos ((nI_ltI (by omega) (by omega)).mpr c2), if_neg (by omega)]
        · rw [if_neg (fun q => c2 ((nI_ltI (by omega) (by omega)).mp q))]
          by_cases c3 : 10 * rvn f b k + f (b + k) - 48 < 100000
          · rw [if_pos c3, show rvn f b k * 10 + f (b + k) - 48 = 10 * rvn f b k + f (b + k) - 48 by omega]
          · rw [if_neg c3, show rvn f b k * 10 + f (b + k) - 48 = 100000 by omega]
      · rw [if_neg c]
        have e1 : cap (rvn f b k) = 100000 := if_neg c
        rw [e1, if_pos ((nI_ltI (by omega) (by omega)).mpr (by omega))]
    unfold Reader_comeToNumber_l11
    rw [e18, e23, if_neg (nI_ge (by omega) (by omega)), chk_t (ib_nI (by omega) (by omega)), bnd_eq, nI_clamp (n := b + k) (by omega), e37, f1, (dig_ok _ f2).2, Option.bind_some, if_pos hdk, if10, chk_t (ib_nI (by omega) (by omega)), bnd_eq, e25, hval, hnew, bnd_eq, bnd_eq, bnd_eq]
    have e23b : (pf (pf (pf x 25 (nI (cap (rvn f b k)))) 23 (nI (b + k))) 25 (nI (cap (rvn f b (k + 1))))).1 23 = nI (b + k) := (pf_ne _ _ (by omega)).trans (pf_at _ _ _)
    rw [e23b, nI_1, pf4 x (by omega)]
    rfl
  · show Reader_comeToNumber_l11 (pf (pf x 25 (nI (cap (rvn f b L)))) 23 (nI (b + L))) = _
    have e18 : (pf (pf x 25 (nI (cap (rvn f b L)))) 23 (nI (b + L))).1 18 = nI N := h18
    have e23 : (pf (pf x 25 (nI (cap (rvn f b L)))) 23 (nI (b + L))).1 23 = nI (b + L) := pf_at _ _ _
    have e37 : (pf (pf x 25 (nI (cap (rvn f b L)))) 23 (nI (b + L))).2 37 = x.2 37 := rfl
    unfold Reader_comeToNumber_l11
    rw [e18, e23]
    by_cases c : N ≤ b + L
    · rw [if_pos (nI_le c (by omega))]
      rfl
    · obtain ⟨f1, f2⟩ := hf (b + L)
      have hne : isD (f (b + L)) = false := he.resolve_left c
      rw [if_neg (nI_ge (by omega) (by omega)), chk_t (ib_nI (by omega) (by omega)), bnd_eq, nI_clamp (n := b + L) (by omega), e37, f1, (dig_ok _ f2).2, Option.bind_some, hne]
      rfl
theorem num_m {m : MS} {N b L : Nat} {f : Nat → Nat} (h19 : m.1 19 = nI N) (hN : N ≤ 200) (h20 : m.1 20 = nI b) (h23 : m.1 23 = 0) (hf : ∀ k, m.2 29 k = nI (f k) ∧ f k < 256) (hb : b + L ≤ N) (hd : ∀ i, i < L → isD (f (b + i)) = true) (he : N ≤ b + L ∨ isD (f (b + L)) = false) : loop (fun z => Md_nextToken_l72 z) m = some (pf (pf m 23 (nI (rvn f b L))) 20 (nI (b + L))) := by
  have h0 : m = (fun k : Nat => pf (pf m 23 (nI (rvn f b k))) 20 (nI (b + k))) 0 := by
    show m = pf (pf m 23 (nI 0)) 20 (nI b)
    rw [pf_same (s := m) (i := 23) (h23.trans nI_0.symm), pf_same h20]
  conv => lhs; rw [h0]
  refine loop_up (f := fun z => Md_nextToken_l72 z) (fun k : Nat => pf (pf m 23 (nI (rvn f b k))) 20 (nI (b + k))) L _ (fun k hk => ?_) ?_
  · show Md_nextToken_l72 (pf (pf m 23 (nI (rvn f b k))) 20 (nI (b + k))) = some (.inl (pf (pf m 23 (nI (rvn f b (k + 1)))) 20 (nI (b + (k + 1)))))
    have hdk := hd k hk
    have hdr := isD_iff.mp hdk
    have hrv := rvn_lt (f := f) (b := b) (k := k) (fun i hi => hd i (by omega))
    obtain ⟨f1, f2⟩ := hf (b + k)
    have e19 : (pf (pf m 23 (nI (rvn f b k))) 20 (nI (b + k))).1 19 = nI N := h19
    have e20 : (pf (pf m 23 (nI (rvn f b k))) 20 (nI (b + k))).1 20 = nI (b + k) := pf_at _ _ _
    have e23 : (pf (pf m 23 (nI (rvn f b k))) 20 (nI (b + k))).1 23 = nI (rvn f b k) := (pf_ne _ _ (by omega)).trans (pf_at _ _ _)
    have hsee : f_Md_see (nI (b + k)) (pf (pf m 23 (nI (rvn f b k))) 20 (nI (b + k))) = some (nI (f (b + k))) := (see_lt e19 hN (by omega)).trans (congrArg some f1)
    unfold Md_nextToken_l72
    rw [e20, hsee, Option.bind_some, (dig_ok _ f2).1, Option.bind_some, if_pos hdk, if10, e23]
    have hstep : rvn f b (k + 1) = if rvn f b k < 100000 then 10 * rvn f b k + f (b + k) - 48 else rvn f b k := rfl
    by_cases c : rvn f b k < 100000
    · rw [if_neg (by rw [show (100000 : Int32) = nI 100000 from rfl]; exact nI_ge c (by omega) : ¬ (100000 : Int32) ≤ nI (rvn f b k)), Option.bind_some, bnd_eq, bnd_eq]
      have hval : (10 : Int32) * nI (rvn f b k) + nI (f (b + k)) - (48 : Int32) = nI (rvn f b (k + 1)) := by
        rw [hstep, if_pos c, show (10 : Int32) = nI 10 from rfl, show (48 : Int32) = nI 48 from rfl, pk_mul, nI_add, pk_sub (by omega)]
      have e20b : ∀ v, (pf (pf (pf m 23 (nI (rvn f b k))) 20 (nI (b + k))) 23 v).1 20 = nI (b + k) := fun v => (pf_ne _ _ (by omega)).trans (pf_at _ _ _)
      rw [hval, e20b, nI_1, pf4 m (by omega)]
      rfl
    · rw [if_pos (by rw [show (100000 : Int32) = nI 100000 from rfl]; exact nI_le (by omega) (by omega) : (100000 : Int32) ≤ nI (rvn f b k)), bnd_eq, nI_1, pf_pf, hstep, if_neg c]
      rfl
  · show Md_nextToken_l72 (pf (pf m 23 (nI (rvn f b L))) 20 (nI (b + L))) = _
    have e19 : (pf (pf m 23 (nI (rvn f b L))) 20 (nI (b + L))).1 19 = nI N := h19
    have e20 : (pf (pf m 23 (nI (rvn f b L))) 20 (nI (b + L))).1 20 = nI (b + L) := pf_at _ _ _
    unfold Md_nextToken_l72
    rw [e20]
    by_cases c : N ≤ b + L
    · rw [see_ge e19 c (by omega), Option.bind_some, dig_m1, Option.bind_some, if00]
      rfl
    · obtain ⟨f1, f2⟩ := hf (b + L)
      have hne : isD (f (b + L)) = false := he.resolve_left c
      have hsee : f_Md_see (nI (b + L)) (pf (pf m 23 (nI (rvn f b L))) 20 (nI (b + L))) = some (nI (f (b + L))) := (see_lt e19 hN (by omega)).trans (congrArg some f1)
      rw [hsee, Option.bind_some, (dig_ok _ f2).1, Option.bind_some, hne]
      rfl
-- ===== words =====
def cw (f : Nat → Nat) (b : Nat) : Nat → Int32
  | 0 => 0
  | k + 1 => (cw f b k <<< ((8 : Int32) &&& 31)) ||| nI (f (b + k))
def rwd (f : Nat → Nat) (b : Nat) : Nat → Int32
  | 0 => 0
  | k + 1 => if rwd f b k < (16777216 : Int32) then (if 0 ≤ rwd f b k then (rwd f b k <<< ((8 : Int32) &&& 31)) ||| nI (f (b + k)) else rwd f b k) else -1
theorem shl8 {w c : Nat} (hw : w < 8388608) (hc : c < 256) : (nI w <<< ((8 : Int32) &&& 31)) ||| nI c = nI (256 * w + c) := by
  rw [pk_shlN ((8 : Int32) &&& 31) 8 (by decide) (by omega), show w * 2 ^ 8 = 2 ^ 8 * w by omega, fa_or_sum w (by omega)]
theorem rwd_s {f : Nat → Nat} {b k w : Nat} (h : rwd f b k = nI w) (hw : w < 16777216) : rwd f b (k + 1) = (nI w <<< ((8 : Int32) &&& 31)) ||| nI (f (b + k)) := by
  show (if rwd f b k < (16777216 : Int32) then (if 0 ≤ rwd f b k then (rwd f b k <<< ((8 : Int32) &&& 31)) ||| nI (f (b + k)) else rwd f b k) else -1) = _
  rw [h, if_pos (by rw [show (16777216 : Int32) = nI 16777216 from rfl]; exact nI_lt hw (by omega)), if_pos (nI_pos' (by omega))]
theorem w_small {f : Nat → Nat} {b k : Nat} (hl : ∀ i, i < k → isL (f (b + i)) = true) (hk : k ≤ 4) : rwd f b k = cw f b k ∧ (k = 4 → ∃ w, rwd f b k = nI w ∧ 16777216 ≤ w ∧ w < 2 ^ 31) := by
  have hr : ∀ i, i < k → 65 ≤ f (b + i) ∧ f (b + i) ≤ 122 := fun i hi => by
    have := isL_iff.mp (hl i hi)
    omega
  have h0 : rwd f b 0 = nI 0 ∧ cw f b 0 = nI 0 := ⟨nI_0.symm, nI_0.symm⟩
  by_cases k0 : k = 0
  · subst k0
    exact ⟨rfl, fun q => by omega⟩
  · have c0 := hr 0 (by omega)
    have h1 : rwd f b 1 = nI (256 * 0 + f (b + 0)) ∧ cw f b 1 = nI (256 * 0 + f (b + 0)) := by
      constructor
      · rw [rwd_s h0.1 (by omega), shl8 (by omega) (by omega)]
      · show (cw f b 0 <<< ((8 : Int32) &&& 31)) ||| nI (f (b + 0)) = _
        rw [h0.2, shl8 (by omega) (by omega)]
    obtain ⟨w1, hw1⟩ : ∃ w, w = 256 * 0 + f (b + 0) := ⟨_, rfl⟩
    rw [← hw1] at h1
    by_cases k1 : k = 1
    · subst k1
      exact ⟨h1.1.trans h1.2.symm, fun q => by omega⟩
    · have c1 := hr 1 (by omega)
      have h2 : rwd f b 2 = nI (256 * w1 + f (b + 1)) ∧ cw f b 2 = nI (256 * w1 + f (b + 1)) := by
        constructor
        · rw [rwd_s h1.1 (by omega), shl8 (by omega) (by omega)]
        · show (cw f b 1 <<< ((8 : Int32) &&& 31)) ||| nI (f (b + 1)) = _
          rw [h1.2, shl8 (by omega) (by omega)]
      obtain ⟨w2, hw2⟩ : ∃ w, w = 256 * w1 + f (b + 1) := ⟨_, rfl⟩
      rw [← hw2] at h2
      by_cases k2 : k = 2
      · subst k2
        exact ⟨h2.1.trans h2.2.symm, fun q => by omega⟩
      · have c2 := hr 2 (by omega)
        have h3 : rwd f b 3 = nI (256 * w2 + f (b + 2)) ∧ cw f b 3 = nI (256 * w2 + f (b + 2)) := by
          constructor
          · rw [rwd_s h2.1 (by omega), shl8 (by omega) (by omega)]
          · show (cw f b 2 <<< ((8 : Int32) &&& 31)) ||| nI (f (b + 2)) = _
            rw [h2.2, shl8 (by omega) (by omega)]
        obtain ⟨w3, hw3⟩ : ∃ w, w = 256 * w2 + f (b + 2) := ⟨_, rfl⟩
        rw [← hw3] at h3
        by_cases k3 : k = 3
        · subst k3
          exact ⟨h3.1.trans h3.2.symm, fun q => by omega⟩
        · have c3 := hr 3 (by omega)
          have e4 : k = 4 := by omega
          subst e4
          have h4 : rwd f b 4 = nI (256 * w3 + f (b + 3)) ∧ cw f b 4 = nI (256 * w3 + f (b + 3)) := by
            constructor
            · rw [rwd_s h3.1 (by omega), shl8 (by omega) (by omega)]
            · show (cw f b 3 <<< ((8 : Int32) &&& 31)) ||| nI (f (b + 3)) = _
              rw [h3.2, shl8 (by omega) (by omega)]
          exact ⟨h4.1.trans h4.2.symm, fun _ => ⟨_, h4.1, by omega, by omega⟩⟩
theorem w_big {f : Nat → Nat} {b : Nat} : ∀ (j : Nat), (∀ i, i < 4 → isL (f (b + i)) = true) → rwd f b (5 + j) = -1
  | 0, hl => by
    obtain ⟨w, h1, h2, h3⟩ := (w_small (f := f) (b := b) (k := 4) hl (by omega)).2 rfl
    show (if rwd f b 4 < (16777216 : Int32) then (if 0 ≤ rwd f b 4 then (rwd f b 4 <<< ((8 : Int32) &&& 31)) ||| nI (f (b + 4)) else rwd f b 4) else -1) = -1
    rw [h1, if_neg (by rw [show (16777216 : Int32) = nI 16777216 from rfl]; exact nI_nlt h2 h3)]
  | j + 1, hl => by
    show (if rwd f b (5 + j) < (16777216 : Int32) then (if 0 ≤ rwd f b (5 + j) then (rwd f b (5 + j) <<< ((8 : Int32) &&& 31)) ||| nI (f (b + (5 + j))) else rwd f b (5 + j)) else -1) = -1
    rw [w_big j hl, if_pos (by decide), if_neg (by decide)]
theorem word_x {x : MS} {N b L : Nat} {f : Nat → Nat} (h18 : x.1 18 = nI N) (hN : N ≤ 200) (h23 : x.1 23 = nI b) (h22 : x.1 22 = nI b) (hf : ∀ k, x.2 37 k = nI (f k) ∧ f k < 256) (hb : b + L ≤ N) (hd : ∀ i, i < L → isL (f (b + i)) = true) (he : N ≤ b + L ∨ isL (f (b + L)) = false) : f_Reader_comeToWord x = Reader_comeToWord_j83 (cw f b L) (if 4 < L then 0 else 1) (pf x 23 (nI (b + L))) := by
  unfold f_Reader_comeToWord
  have h0 : (((0 : Int32), x) : Int32 × MS) = (fun k : Nat => ((cw f b k, pf x 23 (nI (b + k))) : Int32 × MS)) 0 := by
    show _ = ((0 : Int32), pf x 23 (nI b))
    rw [pf_same h23]
  rw [h0, loop_to (f := fun z => Reader_comeToWord_l2 z.1 z.2) (fun k : Nat => ((cw f b k, pf x 23 (nI (b + k))) : Int32 × MS)) L (fun k hk => by
    show Reader_comeToWord_l2 (cw f b k) (pf x 23 (nI (b + k))) = some (.inl ((cw f b k <<< ((8 : Int32) &&& 31)) ||| nI (f (b + k)), pf x 23 (nI (b + (k + 1)))))
    obtain ⟨f1, f2⟩ := hf (b + k)
    have e18 : (pf x 23 (nI (b + k))).1 18 = nI N := h18
    have e23 : (pf x 23 (nI (b + k))).1 23 = nI (b + k) := pf_at _ _ _
    have e37 : (pf x 23 (nI (b + k))).2 37 = x.2 37 := rfl
    unfold Reader_comeToWord_l2
    rw [e18, e23, if_neg (nI_ge (by omega) (by omega)), chk_t (ib_nI (by omega) (by omega)), bnd_eq, nI_clamp (n := b + k) (by omega), e37, f1, (let_ok _ f2).2, Option.bind_some, if_pos (hd k hk), if10, chk_t (ib_nI (by omega) (by omega)), bnd_eq, bnd_eq, bnd_eq, nI_1, pf_pf]
    rfl) L (Nat.le_refl L)]
  refine loop_xit ?_
  show Reader_comeToWord_l2 (cw f b L) (pf x 23 (nI (b + L))) = _
  have e18 : (pf x 23 (nI (b + L))).1 18 = nI N := h18
  have e23 : (pf x 23 (nI (b + L))).1 23 = nI (b + L) := pf_at _ _ _
  have e22 : (pf x 23 (nI (b + L))).1 22 = nI b := (pf_ne _ _ (by omega)).trans h22
  have e37 : (pf x 23 (nI (b + L))).2 37 = x.2 37 := rfl
  have hj : Reader_comeToWord_j65 (cw f b L) (pf x 23 (nI (b + L))) = Reader_comeToWord_j83 (cw f b L) (if 4 < L then 0 else 1) (pf x 23 (nI (b + L))) := by
    unfold Reader_comeToWord_j65
    rw [e23, e22, pk_sub (by omega), show b + L - b = L by omega]
    by_cases c : 4 < L
    · rw [if_pos c, if_pos (by rw [show (4 : Int32) = nI 4 from rfl]; exact nI_lt c (by omega) : (4 : Int32) < nI L)]
    · rw [if_neg c, if_neg (by rw [show (4 : Int32) = nI 4 from rfl]; exact nI_nlt (by omega) (by omega) : ¬ (4 : Int32) < nI L)]
  unfold Reader_comeToWord_l2
  rw [e18, e23, hj]
  by_cases c : N ≤ b + L
  · rw [if_pos (nI_le c (by omega))]
  · obtain ⟨f1, f2⟩ := hf (b + L)
    have hne : isL (f (b + L)) = false := he.resolve_left c
    rw [if_neg (nI_ge (by omega) (by omega)), chk_t (ib_nI (by omega) (by omega)), bnd_eq, nI_clamp (n := b + L) (by omega), e37, f1, (let_ok _ f2).2, Option.bind_some, hne]
    rfl
theorem word_m {m : MS} {N b L : Nat} {f : Nat → Nat} (h19 : m.1 19 = nI N) (hN : N ≤ 200) (h20 : m.1 20 = nI b) (hf : ∀ k, m.2 29 k = nI (f k) ∧ f k < 256) (hb : b + L ≤ N) (hd : ∀ i, i < L → isL (f (b + i)) = true) (he : N ≤ b + L ∨ isL (f (b + L)) = false) : loop (fun z => Md_nextToken_l141 z.1 z.2) ((0 : Int32), m) = (f_Md_wordOf (rwd f b L)).bind fun v3 => some (pf (pf m 20 (nI (b + L))) 22 v3) := by
  have h0 : (((0 : Int32), m) : Int32 × MS) = (fun k : Nat => ((rwd f b k, pf m 20 (nI (b + k))) : Int32 × MS)) 0 := by
    show _ = ((0 : Int32), pf m 20 (nI b))
    rw [pf_same h20]
  rw [h0, loop_to (f := fun z => Md_nextToken_l141 z.1 z.2) (fun k : Nat => ((rwd f b k, pf m 20 (nI (b + k))) : Int32 × MS)) L (fun k hk => by
    show Md_nextToken_l141 (rwd f b k) (pf m 20 (nI (b + k))) = some (.inl ((if rwd f b k < (16777216 : Int32) then (if 0 ≤ rwd f b k then (rwd f b k <<< ((8 : Int32) &&& 31)) ||| nI (f (b + k)) else rwd f b k) else -1), pf m 20 (nI (b + (k + 1)))))
    obtain ⟨f1, f2⟩ := hf (b + k)
    have e19 : (pf m 20 (nI (b + k))).1 19 = nI N := h19
    have e20 : (pf m 20 (nI (b + k))).1 20 = nI (b + k) := pf_at _ _ _
    have hsee : f_Md_see (nI (b + k)) (pf m 20 (nI (b + k))) = some (nI (f (b + k))) := (see_lt e19 hN (by omega)).trans (congrArg some f1)
    have hj : ∀ v, Md_nextToken_j187 v (pf m 20 (nI (b + k))) = some (.inl (v, pf m 20 (nI (b + (k + 1))))) := fun v => by
      unfold Md_nextToken_j187
      rw [bnd_eq, e20, nI_1, pf_pf]
      rfl
    unfold Md_nextToken_l141
    rw [e20, hsee, Option.bind_some, (let_ok _ f2).1, Option.bind_some, if_pos (hd k hk), if10, Option.bind_some, hj, hj, hj]
    by_cases c : rwd f b k < (16777216 : Int32)
    · rw [if_pos c, if_pos c]
      by_cases c2 : 0 ≤ rwd f b k
      · rw [if_pos c2, if_pos c2]
      · rw [if_neg c2, if_neg c2]
    · rw [if_neg c, if_neg c]) L (Nat.le_refl L)]
  refine loop_xit ?_
  show Md_nextToken_l141 (rwd f b L) (pf m 20 (nI (b + L))) = _
  have e19 : (pf m 20 (nI (b + L))).1 19 = nI N := h19
  have e20 : (pf m 20 (nI (b + L))).1 20 = nI (b + L) := pf_at _ _ _
  unfold Md_nextToken_l141
  rw [e20]
  by_cases c : N ≤ b + L
  · rw [see_ge e19 c (by omega), Option.bind_some, let_m1, Option.bind_some, if00]
    rfl
  · obtain ⟨f1, f2⟩ := hf (b + L)
    have hne : isL (f (b + L)) = false := he.resolve_left c
    have hsee : f_Md_see (nI (b + L)) (pf m 20 (nI (b + L))) = some (nI (f (b + L))) := (see_lt e19 hN (by omega)).trans (congrArg some f1)
    rw [hsee, Option.bind_some, (let_ok _ f2).1, Option.bind_some, hne]
    rfl
