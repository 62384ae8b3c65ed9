-- ===== the reference's row of open things =====
def rk (a : Nat) : Nat := if a = 15 ∨ a = 16 then 1 else if a = 10 ∨ a = 11 then 2 else if 12 ≤ a ∧ a ≤ 14 then 3 else 0
theorem rank_ok : ∀ a, a < 20 → f_Md_rankOf (nI a) = some (nI (rk a)) := by decide +kernel
theorem rk_op {a : Nat} (h : 1 ≤ rk a) : 10 ≤ a ∧ a ≤ 16 := by
  unfold rk at h
  by_cases c1 : a = 15 ∨ a = 16
  · omega
  · rw [if_neg c1] at h
    by_cases c2 : a = 10 ∨ a = 11
    · omega
    · rw [if_neg c2] at h
      by_cases c3 : 12 ≤ a ∧ a ≤ 14
      · omega
      · rw [if_neg c3] at h; omega
theorem rk_le (a : Nat) : rk a ≤ 3 := by
  unfold rk
  repeat' split
  all_goals omega
def dv (a : Nat) : Int := if 10 ≤ a ∧ a ≤ 16 then 1 else if a = 6 then 1 else if a = 7 then 2 else 0
def nst (a : Nat) : Nat := if a = 5 ∨ a = 6 ∨ a = 7 ∨ a = 8 ∨ a = 18 then 1 else 0
def dsum : List Nat → Int
  | [] => 0
  | a :: t => dv a + dsum t
def nsum : List Nat → Nat
  | [] => 0
  | a :: t => nst a + nsum t
def tp : List Nat → Nat
  | [] => 0
  | a :: _ => a
def RS (f : Nat → Int32) : List Nat → Prop
  | [] => True
  | a :: t => f t.length = nI a ∧ RS f t
theorem dv_0 (a : Nat) : 0 ≤ dv a := by
  unfold dv
  repeat' split
  all_goals omega
theorem dsum_0 : ∀ st, 0 ≤ dsum st
  | [] => Int.le_refl 0
  | a :: t => by
    have := dv_0 a
    have := dsum_0 t
    show 0 ≤ dv a + dsum t
    omega
theorem rs_upd {f : Nat → Int32} {k : Nat} {v : Int32} : ∀ {st : List Nat}, st.length ≤ k → RS f st → RS (upd f k v) st
  | [], _, _ => trivial
  | a :: t, h, hr => by
    have h : t.length + 1 ≤ k := h
    exact ⟨by rw [pk_un (by omega)]; exact hr.1, rs_upd (by omega) hr.2⟩
/-- how many values lie there when e signs of the rule from p on are worked -/
def DP (m : MS) (p e : Nat) : Int := si (fun j => gr (m.2 32 (p + j))) e
def RI (m : MS) (p e L : Nat) (st : List Nat) (w : Int) : Prop :=
  m.1 25 = nI (p + e) ∧ m.1 28 = nI st.length ∧ m.1 29 = nI (nsum st) ∧ RS (m.2 34) st ∧ e + st.length ≤ L ∧ L ≤ 61 ∧ p ≤ 420 ∧ (∀ i, i < e → sg_ok (m.2 32 (p + i)) (m.2 33 (p + i)) ∧ tk (m.2 32 (p + i)) ≤ DP m p i) ∧ DP m p e = dsum st + w ∧ nsum st ≤ 10 ∧ ∀ a, a ∈ st → a < 20
theorem top_eq {m : MS} {p e L : Nat} {st : List Nat} {w : Int} (h : RI m p e L st w) : f_Md_top m = some (nI (tp st)) := by
  obtain ⟨h1, h2, h3, h4, h5, h6, -⟩ := h
  unfold f_Md_top
  cases st with
  | nil =>
    rw [h2, if_pos (show nI ([] : List Nat).length = 0 from nI_0)]
    show some (0 : Int32) = some (nI 0)
    rw [nI_0]
  | cons a t =>
    have h5 : e + (t.length + 1) ≤ L := h5
    have h2 : m.1 28 = nI (t.length + 1) := h2
    rw [h2, if_neg (nI_ne0 (by omega) (by omega)), nI_pred, chk_t (ib_nI (by omega) (by omega)), bnd_eq, nI_clamp (by omega), h4.1]
    rfl
def EMt (M : MS) (q : Nat) (s v : Int32) : MS := pf (pa (pa M 32 q s) 33 q v) 25 (nI (q + 1))
theorem emit_eq {M : MS} {q : Nat} (h : M.1 25 = nI q) (hq : q < 1000) (s v : Int32) : f_Md_emit s v M = some (EMt M q s v) := by
  unfold f_Md_emit EMt
  simp only [pa_f, h, chk_t (ib_nI hq (by omega)), bnd_eq, nI_clamp (show q < 2 ^ 31 by omega), nI_1]
theorem dp_cong {m m' : MS} {p e : Nat} (h : ∀ i, i < e → m'.2 32 (p + i) = m.2 32 (p + i)) : DP m' p e = DP m p e :=
  si_cong (fun j hj => by
    show gr (m'.2 32 (p + j)) = gr (m.2 32 (p + j))
    rw [h j hj])
theorem ri_emit {m M : MS} {p e L L' : Nat} {st st' : List Nat} {w w' : Int} {s v : Int32} (h : RI m p e L st w) (hr : M.2 = m.2) (h28 : M.1 28 = nI st'.length) (h29 : M.1 29 = nI (nsum st')) (hrs : RS (m.2 34) st') (hL : e + 1 + st'.length ≤ L') (hL2 : L' ≤ 61) (hok : sg_ok s v) (htk : tk s ≤ DP m p e) (hg : gr s + (dsum st + w) = dsum st' + w') (hn : nsum st' ≤ 10) (ha : ∀ a, a ∈ st' → a < 20) : RI (EMt M (p + e) s v) p (e + 1) L' st' w' := by
  obtain ⟨h1, h2, h3, h4, h5, h6, h7, h8, h9, h10, h11⟩ := h
  have r32 : (EMt M (p + e) s v).2 32 = upd (m.2 32) (p + e) s := by
    show upd (M.2 32) (p + e) s = _
    rw [hr]
  have r33 : (EMt M (p + e) s v).2 33 = upd (m.2 33) (p + e) v := by
    show upd (M.2 33) (p + e) v = _
    rw [hr]
  have r34 : (EMt M (p + e) s v).2 34 = m.2 34 := by
    show M.2 34 = _
    rw [hr]
  have hdp : ∀ i, i ≤ e → DP (EMt M (p + e) s v) p i = DP m p i := fun i hi => dp_cong (fun j hj => by rw [r32, pk_un (by omega)])
  refine ⟨pf_at _ _ _, h28, h29, by rw [r34]; exact hrs, hL, hL2, h7, fun i hi => ?_, ?_, hn, ha⟩
  · rw [hdp i (by omega), r32, r33]
    by_cases c : i = e
    · rw [c, pk_us, pk_us]
      exact ⟨hok, htk⟩
    · rw [pk_un (by omega), pk_un (by omega)]
      exact h8 i (by omega)
  · show DP (EMt M (p + e) s v) p e + gr ((EMt M (p + e) s v).2 32 (p + e)) = _
    rw [hdp e (Nat.le_refl e), r32, pk_us, h9]
    omega
def OF (p : Nat) (m m' : MS) : Prop := (∀ j, ¬ (j = 25 ∨ j = 28 ∨ j = 29) → m'.1 j = m.1 j) ∧ (∀ j, ¬ (32 ≤ j ∧ j ≤ 34) → m'.2 j = m.2 j) ∧ ∀ i, i < p → m'.2 32 i = m.2 32 i ∧ m'.2 33 i = m.2 33 i
theorem of_refl (p : Nat) (m : MS) : OF p m m := ⟨fun _ _ => rfl, fun _ _ => rfl, fun _ _ => ⟨rfl, rfl⟩⟩
theorem of_trans {p : Nat} {a b c : MS} (h1 : OF p a b) (h2 : OF p b c) : OF p a c := ⟨fun j hj => (h2.1 j hj).trans (h1.1 j hj), fun j hj => (h2.2.1 j hj).trans (h1.2.1 j hj), fun i hi => ⟨(h2.2.2 i hi).1.trans (h1.2.2 i hi).1, (h2.2.2 i hi).2.trans (h1.2.2 i hi).2⟩⟩
theorem of_pf {p : Nat} {a b : MS} (h : OF p a b) {i : Nat} {v : Int32} (hi : i = 25 ∨ i = 28 ∨ i = 29) : OF p a (pf b i v) := ⟨fun j hj => (pf_ne _ _ (by omega)).trans (h.1 j hj), h.2.1, h.2.2⟩
theorem of_em {p : Nat} {a b : MS} (h : OF p a b) {q : Nat} {s v : Int32} (hq : p ≤ q) : OF p a (EMt b q s v) := by
  refine ⟨fun j hj => (pf_ne _ _ (by omega)).trans (h.1 j hj), fun j hj => ?_, fun i hi => ?_⟩
  · show (if j = 33 then _ else if j = 32 then _ else b.2 j) = a.2 j
    rw [if_neg (by omega), if_neg (by omega)]
    exact h.2.1 j hj
  · show upd (b.2 32) q s i = a.2 32 i ∧ upd (b.2 33) q v i = a.2 33 i
    rw [pk_un (by omega), pk_un (by omega)]
    exact h.2.2 i hi
/-- what is emitted when it is taken off -/
def fl (a : Nat) : Nat := if a = 7 then 19 else a
def PD (f : Nat → Int32) : Nat → List Nat → Prop
  | _, [] => True
  | e, a :: t => f e = tr (nI (fl a)) 0 ∧ PD f (e + 1) t
def PO (P : List Nat) : Prop := ∀ a, a ∈ P → a = 7 ∨ (10 ≤ a ∧ a ≤ 16)
def CE (x m : MS) (p e : Nat) : Prop := ∀ i, i < e → x.2 38 i = tr (m.2 32 (p + i)) (m.2 33 (p + i))
/-- behind an expression: P is still open in the reference, the class has emitted it -/
def BK (p : Nat) (x m : MS) (e L : Nat) (P σ : List Nat) : Prop := x.1 19 = nI (e + P.length) ∧ CE x m p e ∧ PD (x.2 38) e P ∧ PO P ∧ RI m p e L (P ++ σ) 1
theorem tk_fl {a : Nat} (h : a = 7 ∨ (10 ≤ a ∧ a ≤ 16)) : tk (nI (fl a)) = dv a + 1 ∧ sg_ok (nI (fl a)) 0 := by
  rcases h with e | e
  · subst e
    exact ⟨by decide, Or.inr (Or.inr (Or.inr rfl))⟩
  · have hf : fl a = a := if_neg (by omega)
    have ht : (nI a).toInt = (a : Int) := nI_toInt (by omega)
    rw [hf]
    constructor
    · unfold tk dv
      rw [if_neg (by omega), if_neg (fun q => by have := (nI_eq (a := a) (b := 18) (by omega) (by omega)).mp q; omega), if_neg (fun q => by have := (nI_eq (a := a) (b := 19) (by omega) (by omega)).mp q; omega), if_pos e]
      rfl
    · exact Or.inr (Or.inl (by omega))
theorem ce_em {x m M : MS} {p e : Nat} {s v : Int32} (hr : M.2 = m.2) (h : CE x m p e) (he : x.2 38 e = tr s v) : CE x (EMt M (p + e) s v) p (e + 1) := by
  intro i hi
  show x.2 38 i = tr (upd (M.2 32) (p + e) s (p + i)) (upd (M.2 33) (p + e) v (p + i))
  rw [hr]
  by_cases c : i = e
  · rw [c, pk_us, pk_us]; exact he
  · rw [pk_un (by omega), pk_un (by omega)]
    exact h i (by omega)
theorem bk_pop {p : Nat} {x m M : MS} {e L a : Nat} {P σ : List Nat} (h : BK p x m e L (a :: P) σ) (hr : M.2 = m.2) (h28 : M.1 28 = nI (P ++ σ).length) (h29 : M.1 29 = nI (nsum (P ++ σ))) : BK p x (EMt M (p + e) (nI (fl a)) 0) (e + 1) L P σ := by
  obtain ⟨b1, b2, b3, b4, b5⟩ := h
  have ha := b4 a (List.mem_cons_self ..)
  obtain ⟨t1, t2⟩ := tk_fl ha
  obtain ⟨r1, r2, r3, r4, r5, r6, r7, r8, r9, r10, r11⟩ := id b5
  have r5 : e + ((P ++ σ).length + 1) ≤ L := r5
  have r9 : DP m p e = dv a + dsum (P ++ σ) + 1 := r9
  have r10 : nst a + nsum (P ++ σ) ≤ 10 := r10
  have hd := dsum_0 (P ++ σ)
  refine ⟨?_, ce_em hr b2 b3.1, b3.2, fun c hc => b4 c (List.mem_cons_of_mem _ hc), ?_⟩
  · rw [b1]
    show nI (e + (P.length + 1)) = nI (e + 1 + P.length)
    congr 1
    omega
  · refine ri_emit b5 hr h28 h29 r4.2 (by omega) r6 t2 (by omega) ?_ (by omega) (fun c hc => r11 c (List.mem_cons_of_mem _ hc))
    show gr (nI (fl a)) + (dv a + dsum (P ++ σ) + 1) = dsum (P ++ σ) + 1
    unfold gr
    rw [t1]
    omega
theorem reduce_eq {p : Nat} {x : MS} {L r : Nat} {P2 σ : List Nat} (hr1 : 1 ≤ r) (hr3 : r ≤ 3) (hstop : rk (tp (P2 ++ σ)) < r) : ∀ (P1 : List Nat) (m : MS) (e : Nat), (∀ a, a ∈ P1 → r ≤ rk a) → BK p x m e L (P1 ++ P2) σ → ∃ m', f_Md_reduce (nI r) m = some m' ∧ OF p m m' ∧ BK p x m' (e + P1.length) L P2 σ
  | [], m, e, _, h => by
    have ht := top_eq h.2.2.2.2
    have hlt : tp (P2 ++ σ) < 20 := by
      have h11 := h.2.2.2.2.2.2.2.2.2.2.2.2.2.2
      cases hq : P2 ++ σ with
      | nil => show 0 < 20; omega
      | cons a t =>
        refine h11 a ?_
        show a ∈ P2 ++ σ
        rw [hq]
        exact List.mem_cons_self ..
    refine ⟨m, ?_, of_refl p m, h⟩
    refine loop_inr ?_
    show Md_reduce_l0 (nI r) m = _
    unfold Md_reduce_l0
    have ht : f_Md_top m = some (nI (tp (P2 ++ σ))) := ht
    rw [ht, Option.bind_some, rank_ok _ hlt, Option.bind_some, if_pos (nI_lt hstop (by omega))]
    rfl
  | a :: P1, m, e, hP, h => by
    have ha := hP a (List.mem_cons_self ..)
    have hop := rk_op (a := a) (by omega)
    have h : BK p x m e L (a :: (P1 ++ P2)) σ := h
    obtain ⟨r1, r2, r3, r4, r5, r6, r7, -⟩ := id h.2.2.2.2
    have r5 : e + ((P1 ++ P2 ++ σ).length + 1) ≤ L := r5
    have r2 : m.1 28 = nI ((P1 ++ P2 ++ σ).length + 1) := r2
    have r3 : m.1 29 = nI (nst a + nsum (P1 ++ P2 ++ σ)) := r3
    have hns : nst a = 0 := if_neg (by omega)
    rw [hns, Nat.zero_add] at r3
    have ht : f_Md_top m = some (nI a) := top_eq h.2.2.2.2
    obtain ⟨M, hM⟩ : ∃ M, M = pf m 28 (nI (P1 ++ P2 ++ σ).length) := ⟨_, rfl⟩
    have hM2 : M.2 = m.2 := by rw [hM]; rfl
    have hM28 : M.1 28 = nI (P1 ++ P2 ++ σ).length := by rw [hM]; exact pf_at _ _ _
    have hM29 : M.1 29 = nI (nsum (P1 ++ P2 ++ σ)) := by rw [hM]; exact (pf_ne _ _ (by omega)).trans r3
    have hM25 : M.1 25 = nI (p + e) := by rw [hM]; exact (pf_ne _ _ (by omega)).trans r1
    have hpop := bk_pop h hM2 hM28 hM29
    have hfl : fl a = a := if_neg (by omega)
    rw [hfl] at hpop
    obtain ⟨m', q1, q2, q3⟩ := reduce_eq hr1 hr3 hstop P1 (EMt M (p + e) (nI a) 0) (e + 1) (fun c hc => hP c (List.mem_cons_of_mem _ hc)) hpop
    refine ⟨m', ?_, of_trans (of_em (by rw [hM]; exact of_pf (of_refl p m) (by omega)) (by omega)) q2, ?_⟩
    · refine (loop_inl ?_).trans q1
      show Md_reduce_l0 (nI r) m = _
      have hrow : M.2 34 (P1 ++ P2 ++ σ).length = nI a := by rw [hM2]; exact r4.1
      unfold Md_reduce_l0
      rw [ht, Option.bind_some, rank_ok a (by omega), Option.bind_some, if_neg (nI_nlt ha (by have := rk_le a; omega)), bnd_eq, r2, nI_pred, ← hM, hM28, chk_t (ib_nI (by omega) (by omega)), bnd_eq, nI_clamp (by omega), hrow, emit_eq hM25 (by omega), Option.bind_some]
    · have : e + 1 + P1.length = e + (a :: P1).length := by
        show e + 1 + P1.length = e + (P1.length + 1)
        omega
      rw [← this]
      exact q3
theorem split7 : ∀ (P : List Nat), PO P → (∀ a, a ∈ P → 1 ≤ rk a) ∨ ∃ P1 P3, P = P1 ++ 7 :: P3 ∧ ∀ a, a ∈ P1 → 1 ≤ rk a
  | [], _ => Or.inl (fun a ha => absurd ha (List.not_mem_nil))
  | a :: t, h => by
    by_cases e : a = 7
    · exact Or.inr ⟨[], t, by rw [e]; rfl, fun a ha => absurd ha (List.not_mem_nil)⟩
    · have hop := (h a (List.mem_cons_self ..)).resolve_left e
      have hrk : 1 ≤ rk a := by
        unfold rk
        repeat' split
        all_goals omega
      rcases split7 t (fun c hc => h c (List.mem_cons_of_mem _ hc)) with q | ⟨P1, P3, q1, q2⟩
      · exact Or.inl (fun c hc => by
          rcases List.mem_cons.mp hc with z | z
          · rw [z]; exact hrk
          · exact q c z)
      · refine Or.inr ⟨a :: P1, P3, by rw [q1]; rfl, fun c hc => ?_⟩
        rcases List.mem_cons.mp hc with z | z
        · rw [z]; exact hrk
        · exact q2 c z
theorem through_eq {p : Nat} {x : MS} {L : Nat} {σ : List Nat} (h0 : rk (tp σ) = 0) (h7 : tp σ ≠ 7) : ∀ (n : Nat) (P : List Nat) (m : MS) (e : Nat), P.length ≤ n → BK p x m e L P σ → ∃ m', f_Md_through m = some (nI (tp σ), m') ∧ OF p m m' ∧ BK p x m' (e + P.length) L [] σ := by
  have hdone : ∀ (P : List Nat) (m : MS) (e : Nat), (∀ a, a ∈ P → 1 ≤ rk a) → BK p x m e L P σ → ∃ m', f_Md_through m = some (nI (tp σ), m') ∧ OF p m m' ∧ BK p x m' (e + P.length) L [] σ := by
    intro P m e hP h
    have hs : rk (tp ([] ++ σ)) < 1 := by
      show rk (tp σ) < 1
      omega
    obtain ⟨m', q1, q2, q3⟩ := reduce_eq (p := p) (x := x) (L := L) (r := 1) (P2 := []) (σ := σ) (by omega) (by omega) hs P m e hP (by rw [List.append_nil]; exact h)
    have ht : f_Md_top m' = some (nI (tp σ)) := top_eq q3.2.2.2.2
    have hlt : tp σ < 20 := by
      have h11 := q3.2.2.2.2.2.2.2.2.2.2.2.2.2.2
      cases hq : σ with
      | nil => show 0 < 20; omega
      | cons a t =>
        refine h11 a ?_
        show a ∈ σ
        rw [hq]
        exact List.mem_cons_self ..
    refine ⟨m', ?_, q2, q3⟩
    unfold f_Md_through
    have q1 : f_Md_reduce (1 : Int32) m = some m' := q1
    rw [q1, Option.bind_some]
    refine loop_inr ?_
    show Md_through_l5 m' = _
    unfold Md_through_l5
    rw [ht, Option.bind_some, if_neg (fun q => h7 ((nI_eq (a := tp σ) (b := 7) (by omega) (by omega)).mp q) : ¬ nI (tp σ) = (7 : Int32)), Option.bind_some]
    rfl
  intro n
  induction n with
  | zero =>
    intro P m e hn h
    have : P = [] := List.length_eq_zero_iff.mp (by omega)
    subst this
    exact hdone [] m e (fun a ha => absurd ha (List.not_mem_nil)) h
  | succ n ih =>
    intro P m e hn h
    rcases split7 P h.2.2.2.1 with q | ⟨P1, P3, q1, q2⟩
    · exact hdone P m e q h
    · subst q1
      have hs : rk (tp (7 :: P3 ++ σ)) < 1 := by
        show rk 7 < 1
        decide
      obtain ⟨m1, a1, a2, a3⟩ := reduce_eq (p := p) (x := x) (L := L) (r := 1) (P2 := 7 :: P3) (σ := σ) (by omega) (by omega) hs P1 m e q2 h
      have a1 : f_Md_reduce (1 : Int32) m = some m1 := a1
      obtain ⟨r1, r2, r3, r4, r5, r6, r7, -⟩ := id a3.2.2.2.2
      have r5 : e + P1.length + ((P3 ++ σ).length + 1) ≤ L := r5
      have r2 : m1.1 28 = nI ((P3 ++ σ).length + 1) := r2
      have r3 : m1.1 29 = nI (1 + nsum (P3 ++ σ)) := r3
      have ht : f_Md_top m1 = some (nI 7) := top_eq a3.2.2.2.2
      obtain ⟨M, hM⟩ : ∃ M, M = pf (pf m1 28 (nI (P3 ++ σ).length)) 29 (nI (nsum (P3 ++ σ))) := ⟨_, rfl⟩
      have hM2 : M.2 = m1.2 := by rw [hM]; rfl
      have hM28 : M.1 28 = nI (P3 ++ σ).length := by rw [hM]; exact (pf_ne _ _ (by omega)).trans (pf_at _ _ _)
      have hM29 : M.1 29 = nI (nsum (P3 ++ σ)) := by rw [hM]; exact pf_at _ _ _
      have hM25 : M.1 25 = nI (p + (e + P1.length)) := by rw [hM]; exact (pf_ne _ _ (by omega)).trans ((pf_ne _ _ (by omega)).trans r1)
      have hpop := bk_pop a3 hM2 hM28 hM29
      have hlen : (P1 ++ 7 :: P3).length = P1.length + (P3.length + 1) := by rw [List.length_append]; rfl
      obtain ⟨m2, b1, b2, b3⟩ := ih P3 (EMt M (p + (e + P1.length)) (nI (fl 7)) 0) (e + P1.length + 1) (by omega) hpop
      refine ⟨m2, ?_, of_trans a2 (of_trans (of_em (by rw [hM]; exact of_pf (of_pf (of_refl p m1) (by omega)) (by omega)) (by omega)) b2), ?_⟩
      · unfold f_Md_through at b1 ⊢
        rw [a1, Option.bind_some]
        have hstep : Md_through_l5 m1 = (f_Md_reduce (1 : Int32) (EMt M (p + (e + P1.length)) (nI (fl 7)) 0)).bind fun s6 => some (.inl s6) := by
          unfold Md_through_l5
          have e29 : (pf m1 28 (nI (P3 ++ σ).length)).1 29 = nI (1 + nsum (P3 ++ σ)) := (pf_ne _ _ (by omega)).trans r3
          rw [ht, Option.bind_some, if_pos (show nI 7 = (7 : Int32) from rfl), bnd_eq, bnd_eq, r2, nI_pred, e29, Nat.add_comm, nI_pred, ← hM, emit_eq hM25 (by omega), Option.bind_some]
          rfl
        cases hred : f_Md_reduce (1 : Int32) (EMt M (p + (e + P1.length)) (nI (fl 7)) 0) with
        | none =>
          rw [hred] at b1
          exact absurd b1 (by intro q; cases q)
        | some s6 =>
          rw [hred, Option.bind_some] at b1 hstep
          exact (loop_inl hstep).trans b1
      · rw [hlen, show e + (P1.length + (P3.length + 1)) = e + P1.length + 1 + P3.length by omega]
        exact b3
/-- signs turned behind a part -/
theorem turned_eq {p L : Nat} {σ : List Nat} (hσ : tp σ ≠ 18) : ∀ (k : Nat) (m : MS) (e : Nat), RI m p e L (List.replicate k 18 ++ σ) 1 → ∃ m', loop (fun z => Md_partIsThrough_l5 z) m = some m' ∧ OF p m m' ∧ RI m' p (e + k) L σ 1 ∧ (∀ i, i < k → m'.2 32 (p + (e + i)) = 18) ∧ ∀ i, i < e → m'.2 32 (p + i) = m.2 32 (p + i) ∧ m'.2 33 (p + i) = m.2 33 (p + i)
  | 0, m, e, h => by
    have h : RI m p e L σ 1 := h
    have ht := top_eq h
    have hlt : tp σ < 20 := by
      have h11 := h.2.2.2.2.2.2.2.2.2.2
      cases hq : σ with
      | nil => show 0 < 20; omega
      | cons a t =>
        refine h11 a ?_
        rw [hq]
        exact List.mem_cons_self ..
    refine ⟨m, ?_, of_refl p m, h, fun i hi => absurd hi (by omega), fun _ _ => ⟨rfl, rfl⟩⟩
    refine loop_inr ?_
    show Md_partIsThrough_l5 m = _
    unfold Md_partIsThrough_l5
    rw [ht, Option.bind_some, if_neg (fun q => hσ ((nI_eq (a := tp σ) (b := 18) (by omega) (by omega)).mp q) : ¬ nI (tp σ) = (18 : Int32))]
    rfl
  | k + 1, m, e, h => by
    have h : RI m p e L (18 :: (List.replicate k 18 ++ σ)) 1 := h
    obtain ⟨r1, r2, r3, r4, r5, r6, r7, r8, r9, r10, r11⟩ := id h
    have r5 : e + ((List.replicate k 18 ++ σ).length + 1) ≤ L := r5
    have r2 : m.1 28 = nI ((List.replicate k 18 ++ σ).length + 1) := r2
    have r3 : m.1 29 = nI (1 + nsum (List.replicate k 18 ++ σ)) := r3
    have r9 : DP m p e = 0 + dsum (List.replicate k 18 ++ σ) + 1 := r9
    have r10 : 1 + nsum (List.replicate k 18 ++ σ) ≤ 10 := r10
    have hd := dsum_0 (List.replicate k 18 ++ σ)
    have ht : f_Md_top m = some (nI 18) := top_eq h
    obtain ⟨M, hM⟩ : ∃ M, M = pf (pf m 28 (nI (List.replicate k 18 ++ σ).length)) 29 (nI (nsum (List.replicate k 18 ++ σ))) := ⟨_, rfl⟩
    have hM2 : M.2 = m.2 := by rw [hM]; rfl
    have hM28 : M.1 28 = nI (List.replicate k 18 ++ σ).length := by rw [hM]; exact (pf_ne _ _ (by omega)).trans (pf_at _ _ _)
    have hM29 : M.1 29 = nI (nsum (List.replicate k 18 ++ σ)) := by rw [hM]; exact pf_at _ _ _
    have hM25 : M.1 25 = nI (p + e) := by rw [hM]; exact (pf_ne _ _ (by omega)).trans ((pf_ne _ _ (by omega)).trans r1)
    have htk : tk 18 = 1 := by decide
    have hri : RI (EMt M (p + e) 18 0) p (e + 1) L (List.replicate k 18 ++ σ) 1 := ri_emit h hM2 hM28 hM29 r4.2 (by omega) r6 (Or.inr (Or.inr (Or.inl rfl))) (by omega) (by
      show gr 18 + (0 + dsum (List.replicate k 18 ++ σ) + 1) = _
      unfold gr
      rw [htk]
      omega) (by omega) (fun c hc => r11 c (List.mem_cons_of_mem _ hc))
    obtain ⟨m', q1, q2, q3, q4, q5⟩ := turned_eq hσ k (EMt M (p + e) 18 0) (e + 1) hri
    have e32 : (EMt M (p + e) 18 0).2 32 = upd (m.2 32) (p + e) 18 := by
      show upd (M.2 32) (p + e) 18 = _
      rw [hM2]
    have e33 : (EMt M (p + e) 18 0).2 33 = upd (m.2 33) (p + e) 0 := by
      show upd (M.2 33) (p + e) 0 = _
      rw [hM2]
    refine ⟨m', ?_, of_trans (of_em (by rw [hM]; exact of_pf (of_pf (of_refl p m) (by omega)) (by omega)) (by omega)) q2, ?_, fun i hi => ?_, fun i hi => ?_⟩
    · refine (loop_inl ?_).trans q1
      show Md_partIsThrough_l5 m = _
      have e29 : (pf m 28 (nI (List.replicate k 18 ++ σ).length)).1 29 = nI (1 + nsum (List.replicate k 18 ++ σ)) := (pf_ne _ _ (by omega)).trans r3
      unfold Md_partIsThrough_l5
      rw [ht, Option.bind_some, if_pos (show nI 18 = (18 : Int32) from rfl), bnd_eq, bnd_eq, r2, nI_pred, e29, Nat.add_comm, nI_pred, ← hM, emit_eq hM25 (by omega), Option.bind_some]
    · rw [show e + (k + 1) = e + 1 + k by omega]
      exact q3
    · by_cases c : i = 0
      · rw [c, Nat.add_zero, (q5 e (by omega)).1, e32, pk_us]
      · have := q4 (i - 1) (by omega)
        rw [show e + 1 + (i - 1) = e + i by omega] at this
        exact this
    · obtain ⟨w1, w2⟩ := q5 i (by omega)
      rw [w1, w2, e32, e33, pk_un (by omega), pk_un (by omega)]
      exact ⟨rfl, rfl⟩
