-- ===== the reference's search of the shed: all ways, one by one =====
theorem loop_xit {S R : Type} {f : S → Option (S ⊕ R)} {s : S} {o : Option R} (h : f s = xit o) : loop f s = o := by
  rw [loop_eq, h]
  cases o <;> rfl
theorem loop_to {S R : Type} {f : S → Option (S ⊕ R)} (g : Nat → S) (N : Nat) (hs : ∀ k, k < N → f (g k) = some (.inl (g (k + 1)))) : ∀ j, j ≤ N → loop f (g 0) = loop f (g j)
  | 0, _ => rfl
  | j + 1, h => (loop_to g N hs j (by omega)).trans (loop_inl (hs j (by omega)))
/-- one place before place k -/
def pI : Nat → Int32
  | 0 => -1
  | k + 1 => nI k
theorem pI_sub : ∀ {k : Nat}, nI k - 1 = pI k
  | 0 => by rw [nI_0]; rfl
  | k + 1 => nI_pred k
theorem pI_add : ∀ {k : Nat}, k < 2 ^ 30 → nI k + (-1 : Int32) = pI k
  | 0, _ => by rw [nI_0]; rfl
  | k + 1, h => nI_m1 (by omega)
noncomputable def HH (z : Int32 × Int32 × MS) : Option (Int32 × MS) := loop (fun z => Md_fewest_l25 z.1 z.2.1 z.2.2) z
noncomputable def JJ (few : Int32) (k : Nat) (s : MS) : Option (Int32 × MS) := (loop (fun z => Md_fewest_l89 few z.1 z.2) (pI k, s)).bind (Sum.elim HH some)
theorem HH_eq (few : Int32) (s : MS) : HH (few, 1, s) = (Md_fewest_l25 few 1 s).bind (Sum.elim HH some) := by
  show loop (fun z => Md_fewest_l25 z.1 z.2.1 z.2.2) (few, 1, s) = _
  rw [loop_eq]
  rfl
theorem HH_0 (few : Int32) (s : MS) : HH (few, 0, s) = some (few, s) := by
  refine loop_inr (f := fun z => Md_fewest_l25 z.1 z.2.1 z.2.2) (s := (few, 0, s)) ?_
  show Md_fewest_l25 few 0 s = _
  unfold Md_fewest_l25
  rw [if00]
  rfl
theorem JJ_0 (few : Int32) (s : MS) : JJ few 0 s = some (few, s) := by
  have h : loop (fun z => Md_fewest_l89 few z.1 z.2) (pI 0, s) = some (.inl (few, 0, s)) := by
    refine loop_inr ?_
    show Md_fewest_l89 few (-1) s = _
    unfold Md_fewest_l89
    rw [if_pos m1_neg]
    unfold Md_fewest_j124
    rw [if_pos m1_neg]
    unfold Md_fewest_j134
    rw [if00]
    rfl
  unfold JJ
  rw [h]
  exact HH_0 few s
theorem JJ_full {few : Int32} {i lanes : Nat} {s : MS} (hi : i < 9) (hl : s.1 16 = nI lanes) (h1 : 1 ≤ lanes) (h4 : lanes ≤ 4) (hv : s.2 27 i = nI (lanes - 1)) : JJ few (i + 1) s = JJ few i (pa s 27 i 0) := by
  have e : nI lanes - 1 = nI (lanes - 1) := by
    obtain ⟨l, rfl⟩ : ∃ l, lanes = l + 1 := ⟨lanes - 1, by omega⟩
    rw [nI_pred]
    rfl
  have h : Md_fewest_l89 few (nI i) s = some (.inl (pI i, pa s 27 i 0)) := by
    unfold Md_fewest_l89
    rw [if_neg (nI_pos (by omega)), chk_t (ib_nI hi (by omega)), bnd_eq, nI_clamp (n := i) (by omega), hv, hl, e, if_pos rfl, chk_t (ib_nI hi (by omega)), bnd_eq, bnd_eq, pI_add (by omega)]
  unfold JJ
  rw [loop_inl (f := fun z => Md_fewest_l89 few z.1 z.2) (s := (pI (i + 1), s)) (s' := (pI i, pa s 27 i 0)) h]
theorem JJ_next {few : Int32} {i lanes v : Nat} {s : MS} (hi : i < 9) (hl : s.1 16 = nI lanes) (h1 : v + 1 < lanes) (h4 : lanes ≤ 4) (hv : s.2 27 i = nI v) : JJ few (i + 1) s = HH (few, 1, pa s 27 i (nI (v + 1))) := by
  have e : nI lanes - 1 = nI (lanes - 1) := by
    obtain ⟨l, rfl⟩ : ∃ l, lanes = l + 1 := ⟨lanes - 1, by omega⟩
    rw [nI_pred]
    rfl
  have ne : ¬ nI v = nI (lanes - 1) := fun q => by
    have := (nI_eq (by omega) (by omega)).mp q
    omega
  have h : Md_fewest_l89 few (nI i) s = some (.inr (.inl (few, 1, pa s 27 i (nI (v + 1))))) := by
    unfold Md_fewest_l89
    rw [if_neg (nI_pos (by omega)), chk_t (ib_nI hi (by omega)), bnd_eq, nI_clamp (n := i) (by omega), hv, hl, e, if_neg ne]
    unfold Md_fewest_j124
    rw [if_neg (nI_pos (by omega))]
    unfold Md_fewest_j134
    rw [if10, chk_t (ib_nI hi (by omega)), bnd_eq, chk_t (ib_nI hi (by omega)), bnd_eq, nI_clamp (n := i) (by omega), hv, nI_1]
    rfl
  unfold JJ
  rw [loop_inr (f := fun z => Md_fewest_l89 few z.1 z.2) (s := (pI (i + 1), s)) h]
  rfl
def Fm (m s : MS) : Prop := s.1 = m.1 ∧ ∀ j, j ≠ 27 → j ≠ 28 → s.2 j = m.2 j
theorem fm_pa {m s : MS} (h : Fm m s) {i k : Nat} {v : Int32} (hi : i = 27 ∨ i = 28) : Fm m (pa s i k v) := by
  refine ⟨h.1, fun j h1 h2 => ?_⟩
  show (if j = i then upd (s.2 i) k v else s.2 j) = m.2 j
  rw [if_neg (by omega)]
  exact h.2 j h1 h2
theorem mh_fm {m s : MS} {n lanes : Nat} {room : Int} {len out : Nat → Int32} (h : MH m n lanes room len out) (hF : Fm m s) : MH s n lanes room len out := by
  obtain ⟨h1, h2, h3, h4, h5, h6, h7, h8⟩ := h
  unfold MH
  rw [hF.1, hF.2 25 (by omega) (by omega), hF.2 3 (by omega) (by omega), hF.2 26 (by omega) (by omega)]
  exact ⟨h1, h2, h3, h4, h5, h6, h7, h8⟩
theorem copy_eq {s : MS} {n : Nat} (hn : s.1 18 = nI n) (h9 : n ≤ 9) (v : Int32) : loop (fun z => Md_fewest_l52 v z.1 z.2) ((0 : Int32), s) = loop (fun z => Md_fewest_l89 v z.1 z.2) (pI n, pr s 28 (va_cpy (s.2 27) (s.2 28) 0 0 n)) := by
  have h0 : (((0 : Int32), s) : Int32 × MS) = (fun k : Nat => ((nI k, pr s 28 (va_cpy (s.2 27) (s.2 28) 0 0 k)) : Int32 × MS)) 0 := by
    refine Prod.ext nI_0.symm ?_
    show s = pr s 28 (va_cpy (s.2 27) (s.2 28) 0 0 0)
    have : va_cpy (s.2 27) (s.2 28) 0 0 0 = s.2 28 := funext fun k => if_neg (by omega)
    rw [this, pr_self]
  rw [h0, loop_to (f := fun z => Md_fewest_l52 v z.1 z.2) (fun k : Nat => ((nI k, pr s 28 (va_cpy (s.2 27) (s.2 28) 0 0 k)) : Int32 × MS)) n (fun k hk => by
    show Md_fewest_l52 v (nI k) (pr s 28 (va_cpy (s.2 27) (s.2 28) 0 0 k)) = some (.inl (nI (k + 1), pr s 28 (va_cpy (s.2 27) (s.2 28) 0 0 (k + 1))))
    have e1 : (pr s 28 (va_cpy (s.2 27) (s.2 28) 0 0 k)).1 18 = nI n := hn
    have e2 : (pr s 28 (va_cpy (s.2 27) (s.2 28) 0 0 k)).2 27 = s.2 27 := rfl
    have e3 : upd (va_cpy (s.2 27) (s.2 28) 0 0 k) k (s.2 27 k) = va_cpy (s.2 27) (s.2 28) 0 0 (k + 1) := funext fun j => by
      show (if j = k then s.2 27 k else if 0 ≤ j ∧ j < 0 + k then s.2 27 (0 + (j - 0)) else s.2 28 j) = if 0 ≤ j ∧ j < 0 + (k + 1) then s.2 27 (0 + (j - 0)) else s.2 28 j
      by_cases q : j = k
      · rw [if_pos q, if_pos (by omega), q, Nat.zero_add, Nat.sub_zero]
      · by_cases q2 : j < k
        · rw [if_neg q, if_pos (by omega), if_pos (by omega)]
        · rw [if_neg q, if_neg (by omega), if_neg (by omega)]
    unfold Md_fewest_l52
    rw [e1, if_neg (nI_ge hk (by omega)), chk_t (ib_nI (by omega) (by omega)), bnd_eq, chk_t (ib_nI (by omega) (by omega)), bnd_eq, bnd_eq, nI_clamp (n := k) (by omega), nI_1, e2, pa_pr, e3]) n (Nat.le_refl n)]
  refine loop_xit ?_
  show Md_fewest_l52 v (nI n) (pr s 28 (va_cpy (s.2 27) (s.2 28) 0 0 n)) = _
  have e1 : (pr s 28 (va_cpy (s.2 27) (s.2 28) 0 0 n)).1 18 = nI n := hn
  unfold Md_fewest_l52
  rw [e1, if_pos (Int32.le_refl _), bnd_eq, pI_sub]
/-- the fewest so far, 81 where there is none -/
def FF (few : Int32) : Int := if few < 0 then 81 else few.toInt
def fw (few : Int32) : Prop := few = -1 ∨ (0 ≤ few.toInt ∧ few.toInt ≤ 72)
theorem FF_neg {few : Int32} (h : few = -1) : FF few = 81 := by unfold FF; rw [h, if_pos m1_neg]
theorem FF_pos {few : Int32} (h : 0 ≤ few.toInt) : FF few = few.toInt := by
  unfold FF
  rw [if_neg (by rw [fa_lt]; show ¬ few.toInt < 0; omega)]
def TT (n lanes : Nat) (room : Int) (len : Nat → Int32) (i : Nat) (c : Nat → Nat) (b : Nat → Nat) : Prop := sh_ok n lanes b ∧ sh_fit n lanes room len b ∧ ∀ k, k < i → b k = c k
theorem few_leaf {m : MS} {n lanes : Nat} {room : Int} {len out : Nat → Int32} (hM : MH m n lanes room len out) {c : Nat → Nat} {few : Int32} {s : MS} (hF : Fm m s) (hc : CU s n lanes c) (hw : fw few) : ∃ (few' : Int32) (s' : MS), HH (few, 1, s) = JJ few' n s' ∧ Fm m s' ∧ CU s' n lanes c ∧ fw few' ∧ Res n out (TT n lanes room len n c) (FF few) (s.2 28) (FF few') (s'.2 28) := by
  have hS := mh_fm hM hF
  obtain ⟨h1, h2, h3, h4, h5, h6, h7, h8⟩ := id hS
  obtain ⟨v, v1, v2⟩ := mof_eq hS hc
  have hmr := mv_rng out c h2
  rw [HH_eq]
  unfold Md_fewest_l25
  rw [if10, v1, Option.bind_some]
  have hfit : ∀ b, TT n lanes room len n c b → sh_fit n lanes room len c := fun b hb l hl => by
    rw [← use_cong (a := b) hb.2.2]
    exact hb.2.1 l hl
  have hmvb : ∀ b, TT n lanes room len n c b → sh_mv out b n = sh_mv out c n := fun b hb => mv_cong hb.2.2
  have hcopy : sh_fit n lanes room len c → v.toInt = sh_mv out c n → v.toInt < FF few → ∃ (few' : Int32) (s' : MS), (loop (fun z => Md_fewest_l52 v z.1 z.2) ((0 : Int32), s)).bind (Sum.elim HH some) = JJ few' n s' ∧ Fm m s' ∧ CU s' n lanes c ∧ fw few' ∧ Res n out (TT n lanes room len n c) (FF few) (s.2 28) (FF few') (s'.2 28) := by
    intro q1 q2 q3
    rw [copy_eq h1 h2]
    refine ⟨v, pr s 28 (va_cpy (s.2 27) (s.2 28) 0 0 n), rfl, ⟨hF.1, fun j z1 z2 => ?_⟩, hc, Or.inr (by omega), Or.inr ⟨c, ⟨hc.2, q1, fun _ _ => rfl⟩, by omega, by rw [FF_pos (by omega)]; exact q2, fun k hk => ?_, fun b hb => Or.inr ⟨(hmvb b hb).symm, lex_refl (fun k hk => (hb.2.2 k hk).symm)⟩⟩⟩
    · show (if j = 28 then _ else s.2 j) = m.2 j
      rw [if_neg z2]
      exact hF.2 j z1 z2
    · show va_cpy (s.2 27) (s.2 28) 0 0 n k = nI (c k)
      unfold va_cpy
      rw [if_pos (by omega), Nat.zero_add, Nat.sub_zero]
      exact hc.1 k hk
  rcases v2 with ⟨q1, q2⟩ | ⟨q1, q2⟩
  · rw [if_neg (by rw [fa_lt]; show ¬ v.toInt < 0; omega : ¬ v < 0)]
    rcases hw with e | e
    · rw [if_pos (by rw [e]; exact m1_neg : few < 0)]
      exact hcopy q1 q2 (by rw [FF_neg e]; omega)
    · rw [if_neg (by rw [fa_lt]; show ¬ few.toInt < 0; omega : ¬ few < 0)]
      by_cases z : few ≤ v
      · rw [if_pos z, bnd_eq, h1, pI_sub]
        rw [fa_le] at z
        exact ⟨few, s, rfl, hF, hc, Or.inr e, res_none (fun b hb => by rw [FF_pos e.1, hmvb b hb]; omega)⟩
      · rw [if_neg z]
        rw [fa_le] at z
        exact hcopy q1 q2 (by rw [FF_pos e.1]; omega)
  · rw [if_pos (by rw [q2]; exact m1_neg : v < 0), bnd_eq, h1, pI_sub]
    exact ⟨few, s, rfl, hF, hc, hw, res_none (fun b hb => absurd (hfit b hb) q1)⟩
theorem cu_upd {s : MS} {n lanes i v : Nat} {c : Nat → Nat} (hc : CU s n lanes c) (hv : v < lanes) : CU (pa s 27 i (nI v)) n lanes (upN c i v) := by
  refine ⟨fun k hk => ?_, fun k hk => ?_⟩
  · show upd (s.2 27) i (nI v) k = nI (upN c i v k)
    by_cases e : k = i
    · rw [e, pk_us, upN_s]
    · rw [pk_un e, upN_n e]; exact hc.1 k hk
  · by_cases e : k = i
    · rw [e, upN_s]; exact hv
    · rw [upN_n e]; exact hc.2 k hk
theorem few_ok {m : MS} {n lanes : Nat} {room : Int} {len out : Nat → Int32} (hM : MH m n lanes room len out) : ∀ (d i : Nat), i + d = n → ∀ (c : Nat → Nat) (few : Int32) (s : MS), Fm m s → CU s n lanes c → (∀ k, i ≤ k → k < n → c k = 0) → fw few → ∃ (few' : Int32) (s' : MS), HH (few, 1, s) = JJ few' i s' ∧ Fm m s' ∧ CU s' n lanes c ∧ fw few' ∧ Res n out (TT n lanes room len i c) (FF few) (s.2 28) (FF few') (s'.2 28)
  | 0, i, hi, c, few, s, hF, hc, hz, hw => by
    have hi : i = n := hi
    subst hi
    exact few_leaf hM hF hc hw
  | d + 1, i, hi, c, few, s, hF, hc, hz, hw => by
    obtain ⟨h1, h2, h3, h4, h5, h6, h7, h8⟩ := id hM
    have hin : i < n := by omega
    have key : ∀ (e v : Nat), v + e + 1 = lanes → ∀ (c : Nat → Nat) (few : Int32) (s : MS), Fm m s → CU s n lanes c → c i = v → (∀ k, i < k → k < n → c k = 0) → fw few → ∃ (few' : Int32) (s' : MS), HH (few, 1, s) = JJ few' i s' ∧ Fm m s' ∧ CU s' n lanes (upN c i 0) ∧ fw few' ∧ Res n out (fun b => TT n lanes room len i c b ∧ v ≤ b i) (FF few) (s.2 28) (FF few') (s'.2 28) := by
      intro e
      induction e with
      | zero =>
        intro v hv c few s hF hc hci hz hw
        obtain ⟨f1, s1, g1, g2, g3, g4, g5⟩ := few_ok hM d (i + 1) (by omega) c few s hF hc (fun k q1 q2 => hz k (by omega) q2) hw
        have hl1 : s1.1 16 = nI lanes := by rw [g2.1]; exact h3
        have hv1 : s1.2 27 i = nI (lanes - 1) := by rw [g3.1 i hin, hci, show v = lanes - 1 by omega]
        rw [g1, JJ_full (by omega) hl1 h4 h5 hv1]
        have hcu := cu_upd (i := i) (v := 0) g3 (by omega)
        rw [nI_0] at hcu
        refine ⟨f1, pa s1 27 i 0, rfl, fm_pa g2 (Or.inl rfl), hcu, g4, ?_⟩
        refine res_iff (fun b => ⟨fun q => ⟨⟨q.1, q.2.1, fun k hk => q.2.2 k (by omega)⟩, by rw [q.2.2 i (by omega), hci]; exact Nat.le_refl v⟩, fun q => ⟨q.1.1, q.1.2.1, fun k hk => ?_⟩⟩) g5
        by_cases z : k = i
        · have w1 := q.1.1 i hin
          have w2 := q.2
          rw [z, hci]
          omega
        · exact q.1.2.2 k (by omega)
      | succ e ih =>
        intro v hv c few s hF hc hci hz hw
        obtain ⟨f1, s1, g1, g2, g3, g4, g5⟩ := few_ok hM d (i + 1) (by omega) c few s hF hc (fun k q1 q2 => hz k (by omega) q2) hw
        have hl1 : s1.1 16 = nI lanes := by rw [g2.1]; exact h3
        have hv1 : s1.2 27 i = nI v := by rw [g3.1 i hin, hci]
        rw [g1, JJ_next (by omega) hl1 (by omega) h5 hv1]
        obtain ⟨f2, s2, k1, k2, k3, k4, k5⟩ := ih (v + 1) (by omega) (upN c i (v + 1)) f1 (pa s1 27 i (nI (v + 1))) (fm_pa g2 (Or.inl rfl)) (cu_upd g3 (by omega)) upN_s (fun k q1 q2 => by rw [upN_n (by omega)]; exact hz k q1 q2) g4
        have e28 : (pa s1 27 i (nI (v + 1))).2 28 = s1.2 28 := rfl
        rw [e28] at k5
        rw [k1]
        refine ⟨f2, s2, rfl, k2, ⟨fun k hk => ?_, fun k hk => ?_⟩, k4, ?_⟩
        · rw [k3.1 k hk]
          by_cases z : k = i
          · rw [z, upN_s, upN_s]
          · rw [upN_n z, upN_n z, upN_n z]
        · by_cases z : k = i
          · rw [z, upN_s]; omega
          · rw [upN_n z]; exact hc.2 k hk
        · refine res_iff (fun b => ?_) (res_comb g5 k5 ?_)
          · constructor
            · rintro (q | q)
              · exact ⟨⟨q.1, q.2.1, fun k hk => q.2.2 k (by omega)⟩, by rw [q.2.2 i (by omega), hci]; exact Nat.le_refl v⟩
              · refine ⟨⟨q.1.1, q.1.2.1, fun k hk => ?_⟩, by have := q.2; omega⟩
                rw [q.1.2.2 k hk, upN_n (by omega)]
            · rintro ⟨q1, q2⟩
              by_cases z : b i = v
              · refine Or.inl ⟨q1.1, q1.2.1, fun k hk => ?_⟩
                by_cases z2 : k = i
                · rw [z2, z, hci]
                · exact q1.2.2 k (by omega)
              · refine Or.inr ⟨⟨q1.1, q1.2.1, fun k hk => ?_⟩, by omega⟩
                rw [upN_n (by omega)]
                exact q1.2.2 k hk
          · rintro b1 b2 p1 ⟨p2, p3⟩
            refine Or.inr ⟨i, hin, ?_, fun j hj => ?_⟩
            · rw [p1.2.2 i (by omega), hci]; omega
            · rw [p1.2.2 j (by omega), p2.2.2 j hj, upN_n (by omega)]
    obtain ⟨f1, s1, g1, g2, g3, g4, g5⟩ := key (lanes - 1) 0 (by omega) c few s hF hc (hz i (Nat.le_refl i) hin) (fun k q1 q2 => hz k (by omega) q2) hw
    refine ⟨f1, s1, g1, g2, ⟨fun k hk => ?_, hc.2⟩, g4, res_iff (fun b => ⟨fun q => q.1, fun q => ⟨q, Nat.zero_le _⟩⟩) g5⟩
    rw [g3.1 k hk]
    by_cases z : k = i
    · rw [z, upN_s, hz i (Nat.le_refl i) hin]
    · rw [upN_n z]
theorem fewest_eq {m : MS} {n lanes : Nat} {room : Int} {len out : Nat → Int32} (hM : MH m n lanes room len out) : ∃ (few : Int32) (s' : MS), f_Md_fewest m = some (few, s') ∧ Fm m s' ∧ fw few ∧ sh_sol n lanes room len out (if few < 0 then 81 else few) (s'.2 28) := by
  obtain ⟨h1, h2, h3, h4, h5, h6, h7, h8⟩ := id hM
  have hz : loop (fun z => Md_fewest_l4 (-1 : Int32) z.1 z.2) ((0 : Int32), m) = HH (-1, 1, pr m 27 (zr (m.2 27) 9)) := by
    have h0 : (((0 : Int32), m) : Int32 × MS) = (fun k : Nat => ((nI k, pr m 27 (zr (m.2 27) k)) : Int32 × MS)) 0 := by
      refine Prod.ext nI_0.symm ?_
      show m = pr m 27 (zr (m.2 27) 0)
      rw [zr_0, pr_self]
    rw [h0, loop_to (f := fun z => Md_fewest_l4 (-1 : Int32) z.1 z.2) (fun k : Nat => ((nI k, pr m 27 (zr (m.2 27) k)) : Int32 × MS)) 9 (fun k hk => by
      show Md_fewest_l4 (-1 : Int32) (nI k) (pr m 27 (zr (m.2 27) k)) = some (.inl (nI (k + 1), pr m 27 (zr (m.2 27) (k + 1))))
      unfold Md_fewest_l4
      have n9 : ¬ (9 : Int32) ≤ nI k := by rw [fa_le, nI_toInt (by omega)]; show ¬ (9 : Int) ≤ (k : Int); omega
      rw [if_neg n9, chk_t (ib_nI hk (by omega)), bnd_eq, bnd_eq, nI_clamp (n := k) (by omega), nI_1, pa_pr, zr_s]) 9 (Nat.le_refl 9)]
    refine loop_xit ?_
    show Md_fewest_l4 (-1 : Int32) (nI 9) (pr m 27 (zr (m.2 27) 9)) = _
    unfold Md_fewest_l4
    rw [if_pos (by decide : (9 : Int32) ≤ nI 9)]
    rfl
  obtain ⟨few, s', g1, g2, g3, g4, g5⟩ := few_ok hM n 0 (by omega) (fun _ => 0) (-1) (pr m 27 (zr (m.2 27) 9)) ⟨rfl, fun j z1 z2 => if_neg z1⟩ ⟨fun k hk => by
      show zr (m.2 27) 9 k = nI 0
      unfold zr
      rw [if_pos (by omega), nI_0], fun k hk => by show 0 < lanes; omega⟩ (fun _ _ _ => rfl) (Or.inl rfl)
  refine ⟨few, s', ?_, g2, g4, ?_⟩
  · unfold f_Md_fewest
    rw [hz, g1, JJ_0]
  · refine sol_of_all (B := (pr m 27 (zr (m.2 27) 9)).2 28) h2 ?_
    have e : (if few < 0 then (81 : Int32) else few).toInt = FF few := by
      unfold FF
      by_cases q : few < 0
      · rw [if_pos q, if_pos q]; rfl
      · rw [if_neg q, if_neg q]
    rw [e]
    rw [FF_neg rfl] at g5
    exact res_iff (fun b => ⟨fun q => ⟨q.1, q.2.1⟩, fun q => ⟨q.1, q.2, fun k hk => absurd hk (by omega)⟩⟩) g5
theorem mh_of {x m : MS} (hO : JO x m) (hW : JW x m) : MH m (m.1 18).toNatClampNeg (m.1 16).toNatClampNeg (m.1 17).toInt (x.2 33) (m.2 26) := by
  obtain ⟨w1, w2, w3, w4, w5, w6, w7, w8, w9, w10, w11⟩ := id hW
  obtain ⟨o1, o2, o3, o4, o5, o6, o7⟩ := id hO
  have w62 := w6.2
  have o62 := o6.2
  have hc := cl_ti w6.1
  have hs := cl_ti (x := m.1 16) (by omega)
  refine ⟨cnt_nI w6.1, by omega, cnt_nI (by omega), by omega, by omega, rfl, fun k hk => ?_, rfl⟩
  obtain ⟨p1, p2, p3, p4, p5⟩ := w10 k (by omega)
  have hb := cl_ti p1
  have := o7 (m.2 25 k).toNatClampNeg (by omega)
  refine ⟨p1, by omega, p3.symm, ?_, ?_⟩
  · rw [p3]; omega
  · rw [p3]; omega
theorem fm_eq {m s : MS} (h : Fm m s) : s = pr (pr m 27 (s.2 27)) 28 (s.2 28) := by
  refine Prod.ext h.1 (funext fun j => ?_)
  show s.2 j = if j = 28 then s.2 28 else if j = 27 then s.2 27 else m.2 j
  by_cases e1 : j = 28
  · rw [if_pos e1, e1]
  · by_cases e2 : j = 27
    · rw [if_neg e1, if_pos e2, e2]
    · rw [if_neg e1, if_neg e2]; exact h.2 j e2 e1
theorem inv_fm {x m s : MS} (h : Inv x m) (hF : Fm m s) : Inv x s := by
  have e := fm_eq hF
  obtain ⟨a, ha⟩ : ∃ a, a = s.2 27 := ⟨_, rfl⟩
  obtain ⟨b, hb⟩ : ∃ b, b = s.2 28 := ⟨_, rfl⟩
  rw [← ha, ← hb] at e
  rw [e]
  exact h
theorem shed_same {x m : MS} (h : Inv x m) : ∃ (few : Int32) (s' : MS), f_Md_fewest m = some (few, s') ∧ Inv x s' ∧ ((x.1 15 = 81 ∧ few = -1) ∨ (x.1 15 = few ∧ 0 ≤ few.toInt ∧ ¬ x.1 15 = 81 ∧ ∀ k : Nat, (k : Int) < (m.1 18).toInt → x.2 31 k = s'.2 28 k)) := by
  obtain ⟨hL, hB, hO, hH, hS, hT, hK, hC, hW, hP, hR, hU⟩ := id h
  obtain ⟨w1, w2, w3, w4, w5, w6, w7, w8, w9, w10, w11⟩ := id hW
  have hM := mh_of hO hW
  have hc := cl_ti w6.1
  have w62 := w6.2
  obtain ⟨few, s', g1, g2, g3, g4⟩ := fewest_eq hM
  rw [← w5] at g4
  refine ⟨few, s', g1, inv_fm h g2, ?_⟩
  rcases sol_one (by omega) w11 g4 with ⟨q1, q2⟩ | ⟨q1, q2, q3, q4⟩
  · rcases g3 with e | e
    · exact Or.inl ⟨q1, e⟩
    · rw [if_neg (by rw [fa_lt]; show ¬ few.toInt < 0; omega : ¬ few < 0)] at q2
      rw [q2] at e
      have e : (81 : Int) ≤ 72 := e.2
      omega
  · rcases g3 with e | e
    · rw [if_pos (by rw [e]; exact m1_neg : few < 0)] at q1
      rw [q1] at q3
      have q3 : (81 : Int) ≤ 72 := q3
      omega
    · rw [if_neg (by rw [fa_lt]; show ¬ few.toInt < 0; omega : ¬ few < 0)] at q1
      refine Or.inr ⟨q1, e.1, fun q => ?_, fun k hk => q4 k (by omega)⟩
      rw [q] at q3
      have q3 : (81 : Int) ≤ 72 := q3
      omega
theorem st_moves : St_moves Inv := by
  intro sx sm h
  obtain ⟨few, s', g1, g2, g3⟩ := shed_same h
  unfold f_Hb_moves f_Md_moves f_Shed_isFilled
  rw [g1, bd2_some]
  rcases g3 with ⟨q1, q2⟩ | ⟨q1, q2, q3, q4⟩
  · rw [if_pos q1, Option.bind_some, if00, q2]
    exact ⟨-1, s', rfl, rfl, g2⟩
  · rw [if_neg q3, Option.bind_some, if10, q1]
    exact ⟨few, s', rfl, rfl, g2⟩
theorem st_lane : St_lane Inv := by
  intro a1 sx sm h
  obtain ⟨hL, hB, hO, hH, hS, hT, hK, hC, hW, hP, hR, hU⟩ := id h
  obtain ⟨w1, w2, w3, w4, w5, w6, w7, w8, w9, w10, w11⟩ := id hW
  have w62 := w6.2
  unfold f_Hb_lane f_Md_lane
  by_cases c1 : 0 ≤ a1.toInt ∧ a1.toInt < (sm.1 18).toInt
  · obtain ⟨few, s', g1, g2, g3⟩ := shed_same h
    have hi := inb_of w6 c1
    have hca := cl_ti c1.1
    rw [inc_t w6 c1, Option.bind_some, if10, if_neg (by rw [fa_lt]; show ¬ a1.toInt < 0; omega : ¬ a1 < 0), if_neg (by rw [fa_le, w1]; omega : ¬ sx.1 14 ≤ a1), g1, bd2_some]
    unfold f_Shed_isFilled
    rcases g3 with ⟨q1, q2⟩ | ⟨q1, q2, q3, q4⟩
    · rw [if_pos q1, Option.bind_some, if00, if_pos (by rw [q2]; exact m1_neg : few < 0)]
      exact ⟨-1, s', rfl, rfl, g2⟩
    · rw [if_neg q3, Option.bind_some, if10, if_neg (by rw [fa_lt]; show ¬ few.toInt < 0; omega : ¬ few < 0), chk_t hi, bnd_eq, chk_t hi, bnd_eq, q4 a1.toNatClampNeg (by omega)]
      exact ⟨_, s', rfl, rfl, g2⟩
  · rw [inc_f w6 c1, Option.bind_some, if00]
    by_cases n1 : a1 < 0
    · rw [if_pos n1]
      exact ⟨-1, sm, rfl, rfl, h⟩
    · rw [if_neg n1, if_pos (by rw [fa_le, w1]; rw [fa_lt] at n1; have n1 : ¬ a1.toInt < 0 := n1; omega : sx.1 14 ≤ a1)]
      exact ⟨-1, sm, rfl, rfl, h⟩
