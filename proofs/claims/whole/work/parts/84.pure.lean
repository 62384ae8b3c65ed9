-- ===== both readers =====
noncomputable def RL (m : MS) : Option (Int32 × MS) := loop (fun z => Md_read_l29 z) m
theorem RL_eq (m : MS) : RL m = (Md_read_l29 m).bind (Sum.elim RL some) := by
  show loop (fun z => Md_read_l29 z) m = _
  rw [loop_eq]
  rfl
def FRx (x0 x : MS) : Prop := (∀ j, ¬ (19 ≤ j ∧ j ≤ 27) → x.1 j = x0.1 j) ∧ ∀ j, j ≠ 38 → x.2 j = x0.2 j
def FRm (m0 : MS) (p : Nat) (m : MS) : Prop := (∀ j, ¬ ((20 ≤ j ∧ j ≤ 23) ∨ j = 25 ∨ (28 ≤ j ∧ j ≤ 31)) → m.1 j = m0.1 j) ∧ (∀ j, ¬ (32 ≤ j ∧ j ≤ 34) → m.2 j = m0.2 j) ∧ ∀ i, i < p → m.2 32 i = m0.2 32 i ∧ m.2 33 i = m0.2 33 i
theorem frx_pf {x0 x : MS} (h : FRx x0 x) {i : Nat} {v : Int32} (hi : 19 ≤ i ∧ i ≤ 27) : FRx x0 (pf x i v) := ⟨fun j hj => (pf_ne _ _ (by omega)).trans (h.1 j hj), h.2⟩
theorem frx_pa {x0 x : MS} (h : FRx x0 x) {k : Nat} {v : Int32} : FRx x0 (pa x 38 k v) := ⟨h.1, fun j hj => (pa_ne x k v hj).trans (h.2 j hj)⟩
theorem frm_pf {m0 m : MS} {p : Nat} (h : FRm m0 p m) {i : Nat} {v : Int32} (hi : (20 ≤ i ∧ i ≤ 23) ∨ i = 25 ∨ (28 ≤ i ∧ i ≤ 31)) : FRm m0 p (pf m i v) := ⟨fun j hj => (pf_ne _ _ (by omega)).trans (h.1 j hj), h.2⟩
theorem frm_pa {m0 m : MS} {p : Nat} (h : FRm m0 p m) {k : Nat} {v : Int32} : FRm m0 p (pa m 34 k v) := ⟨h.1, fun j hj => (pa_ne m k v (by omega)).trans (h.2.1 j hj), h.2.2⟩
theorem frm_of {m0 m m' : MS} {p : Nat} (h : FRm m0 p m) (ho : OF p m m') : FRm m0 p m' := ⟨fun j hj => (ho.1 j (by omega)).trans (h.1 j hj), fun j hj => (ho.2.1 j hj).trans (h.2.1 j hj), fun i hi => ⟨(ho.2.2 i hi).1.trans (h.2.2 i hi).1, (ho.2.2 i hi).2.trans (h.2.2 i hi).2⟩⟩
/-- both at the same token (of kind k), T tokens taken, no fault -/
def CM (N p : Nat) (x0 m0 x m : MS) (T k : Nat) : Prop := FRx x0 x ∧ FRm m0 p m ∧ TP x m N ∧ x.1 20 = 0 ∧ x.1 21 = -1 ∧ TS N x m k ∧ x.1 26 = nI T ∧ m.1 30 = nI T ∧ T ≤ 60
def Wt (N p : Nat) (x0 m0 : MS) (st : List Nat) (x m : MS) (e T k : Nat) : Prop := CM N p x0 m0 x m T k ∧ m.1 31 = 1 ∧ x.1 27 = nI (nsum st) ∧ x.1 19 = nI e ∧ CE x m p e ∧ RI m p e T st 0
def Bh (N p : Nat) (x0 m0 : MS) (σ P : List Nat) (x m : MS) (e T k : Nat) : Prop := CM N p x0 m0 x m T k ∧ m.1 31 = 0 ∧ x.1 27 = nI (nsum σ) ∧ BK p x m e T P σ
def BU (N p : Nat) (x0 m0 : MS) (kk : Nat) (σ : List Nat) (x m : MS) (z T k : Nat) : Prop := CM N p x0 m0 x m T k ∧ m.1 31 = 0 ∧ x.1 27 = nI (kk + nsum σ) ∧ x.1 19 = nI z ∧ CE x m p z ∧ (∀ i, i < kk → m.2 32 (p + (z + i)) = 18) ∧ RI m p (z + kk) T σ 1
def DEAD (p : Nat) (x0 m0 x' : MS) (o : Option (Int32 × MS)) : Prop := FRx x0 x' ∧ (∃ z, z ≤ 60 ∧ x'.1 19 = nI z) ∧ ∃ f m', 1 ≤ f ∧ f ≤ 3 ∧ x'.1 20 = nI f ∧ o = some (nI f, m') ∧ m'.1 21 = x'.1 21 ∧ FRm m0 p m'
theorem dead_ne {p : Nat} {x0 m0 x' : MS} {o : Option (Int32 × MS)} (h : DEAD p x0 m0 x' o) : ¬ x'.1 20 = 0 := by
  obtain ⟨-, -, f, m', f1, f2, f3, -⟩ := h
  rw [f3]
  exact nI_ne0 (by omega) (by omega)
theorem remit_some {x : MS} {z : Nat} (hz : z ≤ 60) (h : x.1 19 = nI z) (v : Int32) : ∃ x', f_Reader_emit v x = some x' ∧ (∀ j, j ≠ 19 → x'.1 j = x.1 j) ∧ (∀ j, j ≠ 38 → x'.2 j = x.2 j) ∧ ∃ z', z' ≤ 60 ∧ x'.1 19 = nI z' := by
  unfold f_Reader_emit
  by_cases c : z = 60
  · rw [h, if_pos (by rw [c]; decide : (60 : Int32) ≤ nI z)]
    exact ⟨x, rfl, fun _ _ => rfl, fun _ _ => rfl, z, hz, h⟩
  · rw [h, if_neg (by rw [fa_le, nI_toInt (by omega)]; show ¬ (60 : Int) ≤ (z : Int); omega : ¬ (60 : Int32) ≤ nI z), chk_t (ib_nI (by omega) (by omega)), bnd_eq, bnd_eq]
    refine ⟨_, rfl, fun j hj => pf_ne _ _ hj, fun j hj => pa_ne x _ _ hj, z + 1, by omega, ?_⟩
    rw [pf_at, pa_f, h, nI_1]
theorem remit_eq {x : MS} {z : Nat} (hz : z < 60) (h : x.1 19 = nI z) (v : Int32) : f_Reader_emit v x = some (pf (pa x 38 z v) 19 (nI (z + 1))) := by
  unfold f_Reader_emit
  rw [h, if_neg (by rw [fa_le, nI_toInt (by omega)]; show ¬ (60 : Int) ≤ (z : Int); omega : ¬ (60 : Int32) ≤ nI z), chk_t (ib_nI (by omega) (by omega)), bnd_eq, bnd_eq, pa_f, h, nI_1, nI_clamp (by omega)]
theorem dead_emit {p : Nat} {x0 m0 x : MS} {o : Option (Int32 × MS)} (h : DEAD p x0 m0 x o) (v : Int32) : ∃ x', f_Reader_emit v x = some x' ∧ DEAD p x0 m0 x' o := by
  obtain ⟨h1, ⟨z, h2, h3⟩, f, m', f1, f2, f3, f4, f5, f6⟩ := h
  obtain ⟨x', q1, q2, q3, q4⟩ := remit_some h2 h3 v
  exact ⟨x', q1, ⟨fun j hj => (q2 j (by omega)).trans (h1.1 j hj), fun j hj => (q3 j hj).trans (h1.2 j hj)⟩, q4, f, m', f1, f2, (q2 20 (by omega)).trans f3, f4, f5.trans (q2 21 (by omega)).symm, f6⟩
theorem dead_27 {p : Nat} {x0 m0 x : MS} {o : Option (Int32 × MS)} (h : DEAD p x0 m0 x o) (v : Int32) : DEAD p x0 m0 (pf x 27 v) o := by
  obtain ⟨h1, h2, f, m', f1, f2, f3, f4, f5, f6⟩ := h
  exact ⟨frx_pf h1 (by omega), h2, f, m', f1, f2, f3, f4, f5, f6⟩
theorem dead_refuse {x : MS} (h : ¬ x.1 20 = 0) (v : Int32) : f_Reader_refuse v x = some x := by
  unfold f_Reader_refuse
  rw [if_neg h]
theorem dead_take {x : MS} (h : ¬ x.1 20 = 0) : f_Reader_take x = some x := by
  unfold f_Reader_take
  rw [if_neg h]
theorem dead_expect {x : MS} (h : ¬ x.1 20 = 0) (v : Int32) : f_Reader_expect v x = some x := by
  unfold f_Reader_expect
  rw [dead_take h, dead_refuse h]
  by_cases c : x.1 24 = v
  · rw [if_pos c]; rfl
  · rw [if_neg c]; rfl
theorem dead_E {x : MS} (h : ¬ x.1 20 = 0) (n : Nat) : f_Reader_rd (n + 1) 0 x = some x := by
  show (if (0 : Nat) = 0 then b_f_Reader_readE (f_Reader_rd n) x else _) = some x
  rw [if_pos rfl]
  unfold b_f_Reader_readE
  rw [if_neg h]
theorem rd_1 (n : Nat) (x : MS) : f_Reader_rd (n + 1) 1 x = b_f_Reader_readC (f_Reader_rd n) x := rfl
theorem rd_2 (n : Nat) (x : MS) : f_Reader_rd (n + 1) 2 x = b_f_Reader_readS (f_Reader_rd n) x := rfl
theorem rd_3 (n : Nat) (x : MS) : f_Reader_rd (n + 1) 3 x = b_f_Reader_readT (f_Reader_rd n) x := rfl
theorem rd_4 (n : Nat) (x : MS) : f_Reader_rd (n + 1) 4 x = b_f_Reader_readU (f_Reader_rd n) x := rfl
theorem rd_0 (n : Nat) (x : MS) : f_Reader_rd (n + 1) 0 x = b_f_Reader_readE (f_Reader_rd n) x := rfl
theorem dead_U {x : MS} (h : ¬ x.1 20 = 0) (n : Nat) : f_Reader_rd (n + 1) 4 x = some x := by
  rw [rd_4]
  unfold b_f_Reader_readU
  rw [if_neg h]
theorem deadloop_T {x : MS} (h : ¬ x.1 20 = 0) (rc : Nat → MS → Option MS) (i : Int32) : loop (fun z => Reader_readT_l6 rc z.1 z.2) (i, x) = some x := by
  refine loop_inr ?_
  show Reader_readT_l6 rc i x = _
  unfold Reader_readT_l6
  rw [if_neg h]
  by_cases c : (60 : Int32) ≤ i
  · rw [if_pos c]; rfl
  · rw [if_neg c]; rfl
theorem deadloop_S {x : MS} (h : ¬ x.1 20 = 0) (rc : Nat → MS → Option MS) (i : Int32) : loop (fun z => Reader_readS_l6 rc z.1 z.2) (i, x) = some x := by
  refine loop_inr ?_
  show Reader_readS_l6 rc i x = _
  unfold Reader_readS_l6
  rw [if_neg h]
  by_cases c : (60 : Int32) ≤ i
  · rw [if_pos c]; rfl
  · rw [if_neg c]; rfl
theorem dead_T {x : MS} (h : ¬ x.1 20 = 0) (n : Nat) : f_Reader_rd (n + 2) 3 x = some x := by
  rw [rd_3]
  unfold b_f_Reader_readT
  rw [dead_U h, Option.bind_some]
  exact deadloop_T h _ _
theorem dead_S {x : MS} (h : ¬ x.1 20 = 0) (n : Nat) : f_Reader_rd (n + 3) 2 x = some x := by
  rw [rd_2]
  unfold b_f_Reader_readS
  rw [dead_T h, Option.bind_some]
  exact deadloop_S h _ _
theorem refuse_eq {x : MS} (h : x.1 20 = 0) (v : Int32) : f_Reader_refuse v x = some (pf (pf x 20 v) 21 (x.1 22)) := by
  unfold f_Reader_refuse
  rw [if_pos h]
  rfl
theorem kc_inj : ∀ a, a ≤ 17 → ∀ b, b ≤ 17 → kc a = kc b → a = b := by decide +kernel
theorem kc_is {a b : Nat} (ha : a ≤ 17) (hb : b ≤ 17) {v : Int32} (hv : kc b = v) : kc a = v ↔ a = b := ⟨fun h => kc_inj a ha b hb (h.trans hv.symm), fun h => by rw [h]; exact hv⟩
/-- a token is refused -/
theorem dead_of {p : Nat} {x0 m0 x m m' : MS} {z f : Nat} {o : Option (Int32 × MS)} (hx : FRx x0 x) (hz : z ≤ 60) (h19 : x.1 19 = nI z) (h22 : x.1 22 = m'.1 21) (h1 : 1 ≤ f) (h3 : f ≤ 3) (ho : o = some (nI f, m')) (hm : FRm m0 p m') : DEAD p x0 m0 (pf (pf x 20 (nI f)) 21 (x.1 22)) o :=
  ⟨frx_pf (frx_pf hx (by omega)) (by omega), ⟨z, hz, h19⟩, f, m', h1, h3, rfl, ho, h22.symm, hm⟩
/-- what taking a token leaves -/
def TXx (x y : MS) : Prop := (∀ j, ¬ (22 ≤ j ∧ j ≤ 26) → y.1 j = x.1 j) ∧ y.2 = x.2
def TMx (m y : MS) : Prop := (∀ j, ¬ ((20 ≤ j ∧ j ≤ 23) ∨ j = 30) → y.1 j = m.1 j) ∧ y.2 = m.2
theorem adv {N p : Nat} {x0 m0 x m : MS} {T k : Nat} (h : CM N p x0 m0 x m T k) (hT : T < 60) (h4 : k = 4 → ∃ v, v < 100000 ∧ m.1 23 = nI v) : ∃ (x' m' : MS) (k' : Nat), f_Reader_take x = some x' ∧ (Md_read_j54 0 m).bind (Sum.elim RL some) = RL m' ∧ CM N p x0 m0 x' m' (T + 1) k' ∧ TXx x x' ∧ TMx m m' := by
  obtain ⟨c1, c2, c3, c4, c5, c6, c7, c8, c9⟩ := h
  obtain ⟨s1, ⟨a, s2, s3, s4⟩, s5, s6, s7, s8⟩ := c6
  have tp2 : TP (pf x 26 (nI (T + 1))) (pf m 30 (nI (T + 1))) N := c3
  obtain ⟨x', m', k', q1, q2, q3, q4, q5⟩ := tok tp2 (a := a) s2 s4 s3
  have htx : TXx x x' := ⟨fun j hj => (q3.1 j (by omega)).trans (pf_ne _ _ (by omega)), q3.2⟩
  have htm : TMx m m' := ⟨fun j hj => (q4.1 j (by omega)).trans (pf_ne _ _ (by omega)), q4.2⟩
  have e26 : x'.1 26 = nI (T + 1) := (q3.1 26 (by omega)).trans (pf_at _ _ _)
  have e30 : m'.1 30 = nI (T + 1) := (q4.1 30 (by omega)).trans (pf_at _ _ _)
  refine ⟨x', m', k', ?_, ?_, ⟨⟨fun j hj => (htx.1 j (by omega)).trans (c1.1 j hj), fun j hj => by rw [htx.2]; exact c1.2 j hj⟩, ⟨fun j hj => (htm.1 j (by omega)).trans (c2.1 j hj), by rw [htm.2]; exact c2.2⟩, ?_, (htx.1 20 (by omega)).trans c4, (htx.1 21 (by omega)).trans c5, q5, e26, e30, by omega⟩, htx, htm⟩
  · have hj : Reader_take_j44 (pf x 26 (nI (T + 1))) = some x' := by
      unfold Reader_take_j44
      rw [show (pf x 26 (nI (T + 1))).1 26 = nI (T + 1) from pf_at _ _ _, if_pos (by rw [fa_le, nI_toInt (by omega)]; show ((T + 1 : Nat) : Int) ≤ 60; omega : nI (T + 1) ≤ (60 : Int32)), q1]
      rfl
    unfold f_Reader_take
    rw [if_pos c4, bnd_eq, c7, nI_1, show (pf x 26 (nI (T + 1))).1 24 = kc k from s7, show (pf x 26 (nI (T + 1))).1 25 = x.1 25 from rfl, hj]
    by_cases e4 : k = 4
    · obtain ⟨v, v1, v2⟩ := h4 e4
      obtain ⟨u, u1, u2, u3⟩ := s8 e4
      have huv : u = v := (nI_eq (by omega) (by omega)).mp (u2.symm.trans v2)
      rw [huv, if_pos v1] at u3
      rw [if_pos (by rw [e4]; rfl : kc k = (48 : Int32)), u3, if_pos (by rw [fa_le, nI_toInt (by omega)]; show (v : Int) ≤ 99999; omega : nI v ≤ (99999 : Int32))]
    · rw [if_neg (fun q => e4 ((kc_is s5 (by omega) (b := 4) rfl).mp q) : ¬ kc k = (48 : Int32))]
  · unfold Md_read_j54
    rw [if_pos rfl, bnd_eq, c8, nI_1, q2]
    rfl
  · obtain ⟨t1, t2, t3, t4, t5⟩ := c3
    refine ⟨(htx.1 18 (by omega)).trans t1, (htm.1 19 (by omega)).trans t2, t3, by rw [htx.2, htm.2]; exact t4, by rw [htm.2]; exact t5⟩
theorem take_full {x : MS} {k : Nat} (h20 : x.1 20 = 0) (hk : k ≤ 17) (h24 : x.1 24 = kc k) (h26 : x.1 26 = nI 60) (h4 : k = 4 → x.1 25 ≤ (99999 : Int32)) : f_Reader_take x = some (pf (pf (pf x 26 (nI 61)) 20 (nI 3)) 21 (x.1 22)) := by
  have hj : Reader_take_j44 (pf x 26 (nI 61)) = some (pf (pf (pf x 26 (nI 61)) 20 (nI 3)) 21 (x.1 22)) := by
    unfold Reader_take_j44
    rw [show (pf x 26 (nI 61)).1 26 = nI 61 from pf_at _ _ _, if_neg (by decide : ¬ nI 61 ≤ (60 : Int32)), refuse_eq (x := pf x 26 (nI 61)) h20]
    rfl
  unfold f_Reader_take
  rw [if_pos h20, bnd_eq, h26, show nI 60 + 1 = nI 61 from nI_1 60, show (pf x 26 (nI 61)).1 24 = kc k from h24, show (pf x 26 (nI 61)).1 25 = x.1 25 from rfl, hj]
  by_cases e4 : k = 4
  · rw [if_pos (by rw [e4]; rfl : kc k = (48 : Int32)), if_pos (h4 e4)]
  · rw [if_neg (fun q => e4 ((kc_is hk (by omega) (b := 4) rfl).mp q) : ¬ kc k = (48 : Int32))]
theorem take_large {x : MS} (h20 : x.1 20 = 0) (h24 : x.1 24 = kc 4) (h25 : x.1 25 = nI 100000) : ∃ v, f_Reader_take x = some (pf (pf (pf x 26 v) 20 (nI 2)) 21 (x.1 22)) := by
  refine ⟨x.1 26 + 1, ?_⟩
  unfold f_Reader_take
  rw [if_pos h20, bnd_eq, show (pf x 26 (x.1 26 + 1)).1 24 = kc 4 from h24, show (pf x 26 (x.1 26 + 1)).1 25 = nI 100000 from h25, if_pos (show kc 4 = (48 : Int32) from rfl), if_neg (by decide : ¬ nI 100000 ≤ (99999 : Int32)), refuse_eq (x := pf x 26 (x.1 26 + 1)) h20]
  rfl
-- ===== the reference's loop, one turn =====
theorem RL_want0 {m : MS} (h22 : m.1 22 = nI 0) (h31 : m.1 31 = 1) : RL m = some (nI 1, m) := by
  rw [RL_eq]
  unfold Md_read_l29
  rw [h22, if_pos nI_0, h31, if10]
  rfl
theorem RL_part {m : MS} {k : Nat} (hk : 0 < k) (hk2 : k ≤ 17) (h22 : m.1 22 = nI k) (h31 : m.1 31 = 1) {v : Int32} {s : MS} (hp : f_Md_part m = some (v, s)) : RL m = (Md_read_j54 v s).bind (Sum.elim RL some) := by
  rw [RL_eq]
  unfold Md_read_l29
  rw [h22, if_neg (nI_ne0 hk (by omega)), h31, if10, hp]
  rfl
theorem RL_behind {m : MS} {k : Nat} (hk : 0 < k) (hk2 : k ≤ 17) (h22 : m.1 22 = nI k) (h31 : m.1 31 = 0) {v : Int32} {s : MS} (hp : f_Md_behind m = some (v, s)) : RL m = (Md_read_j54 v s).bind (Sum.elim RL some) := by
  rw [RL_eq]
  unfold Md_read_l29
  rw [h22, if_neg (nI_ne0 hk (by omega)), h31, if00, hp]
  rfl
theorem j54_f {f : Nat} (h : 1 ≤ f) (h3 : f ≤ 3) (s : MS) : (Md_read_j54 (nI f) s).bind (Sum.elim RL some) = some (nI f, s) := by
  unfold Md_read_j54
  rw [if_neg (nI_ne0 (by omega) (by omega))]
  rfl
theorem many_t {m : MS} (h : m.1 30 = nI 60) : f_Md_isMany m = some 1 := by
  unfold f_Md_isMany
  rw [h, if_pos (show nI 60 = (60 : Int32) from rfl)]
theorem many_f {m : MS} {T : Nat} (h : m.1 30 = nI T) (hT : T < 60) : f_Md_isMany m = some 0 := by
  unfold f_Md_isMany
  rw [h, if_neg (fun q => by have := (nI_eq (a := T) (b := 60) (by omega) (by omega)).mp q; omega : ¬ nI T = (60 : Int32))]
theorem isin_k {k lo hi : Nat} (hk : k ≤ 17) (hl : lo < 100) (hh : hi < 100) : f_Md_isIn (nI k) (nI lo) (nI hi) = some (if lo ≤ k ∧ k ≤ hi then 1 else 0) := by
  have e1 := nI_toInt (n := k) (by omega)
  have e2 := nI_toInt (n := lo) (by omega)
  have e3 := nI_toInt (n := hi) (by omega)
  by_cases c : lo ≤ k ∧ k ≤ hi
  · rw [if_pos c, in_t (by omega)]
  · rw [if_neg c, in_f (by omega)]
-- ===== lists =====
theorem nsum_app (a b : List Nat) : nsum (a ++ b) = nsum a + nsum b := by
  induction a with
  | nil => show nsum b = 0 + nsum b; omega
  | cons c t ih =>
    show nst c + nsum (t ++ b) = nst c + nsum t + nsum b
    omega
theorem nsum_rep (k : Nat) (σ : List Nat) : nsum (List.replicate k 18 ++ σ) = k + nsum σ := by
  induction k with
  | zero => show nsum σ = 0 + nsum σ; omega
  | succ k ih =>
    show 1 + nsum (List.replicate k 18 ++ σ) = k + 1 + nsum σ
    omega
theorem pd_upd {f : Nat → Int32} {k : Nat} {v : Int32} : ∀ {P : List Nat} {e : Nat}, e + P.length ≤ k → PD f e P → PD (upd f k v) e P
  | [], _, _, _ => trivial
  | a :: t, e, h, hp => by
    have h : e + (t.length + 1) ≤ k := h
    exact ⟨by rw [pk_un (by omega)]; exact hp.1, pd_upd (by omega) hp.2⟩
theorem pd_snoc {f : Nat → Int32} {a : Nat} : ∀ {P : List Nat} {e : Nat}, PD f e P → f (e + P.length) = tr (nI (fl a)) 0 → PD f e (P ++ [a])
  | [], e, _, h => ⟨h, trivial⟩
  | b :: t, e, hp, h => by
    refine ⟨hp.1, pd_snoc hp.2 ?_⟩
    have h : f (e + (t.length + 1)) = tr (nI (fl a)) 0 := h
    rw [show e + 1 + t.length = e + (t.length + 1) by omega]
    exact h
/-- the class emits what it had in hand: it is now open behind the expression -/
theorem bk_snoc {p : Nat} {x m : MS} {e L a : Nat} {P σ : List Nat} (ha : a = 7 ∨ (10 ≤ a ∧ a ≤ 16)) (h : BK p x m e L P (a :: σ)) : BK p (pf (pa x 38 (e + P.length) (tr (nI (fl a)) 0)) 19 (nI (e + P.length + 1))) m e L (P ++ [a]) σ := by
  obtain ⟨b1, b2, b3, b4, b5⟩ := h
  have hrow : (pf (pa x 38 (e + P.length) (tr (nI (fl a)) 0)) 19 (nI (e + P.length + 1))).2 38 = upd (x.2 38) (e + P.length) (tr (nI (fl a)) 0) := rfl
  refine ⟨?_, fun i hi => ?_, ?_, fun c hc => ?_, ?_⟩
  · rw [pf_at, List.length_append]
    congr 1
  · rw [hrow, pk_un (by omega)]
    exact b2 i hi
  · rw [hrow]
    exact pd_snoc (pd_upd (Nat.le_refl _) b3) pk_us
  · rcases List.mem_append.mp hc with q | q
    · exact b4 c q
    · rw [List.mem_singleton.mp q]; exact ha
  · rw [List.append_assoc]
    exact b5
