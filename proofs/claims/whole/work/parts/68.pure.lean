-- ===== the class's search of the shed =====
theorem mby_eq {s : MS} {i l : Nat} {a : Nat → Nat} (hi : i < 9) (hl : l < 4) (hp : ∀ k, k < i → s.2 35 k = nI (a k)) (ha : ∀ k, k < i → a k < 4) : ∃ v : Int32, f_Shed_movesBy (nI i) (nI l) s = some v ∧ v.toInt = sh_by (s.2 34) (upN a i l) i := by
  unfold f_Shed_movesBy
  refine loop_inv (f := fun z => Shed_movesBy_l5 (nI i) (nI l) s z.1 z.2) (fun k z => z.1.toInt = si (fun j => if upN a i l j = upN a i l i ∧ (s.2 34 j).toInt < (s.2 34 i).toInt then (1 : Int) else 0) k ∧ z.2 = nI k) (fun v => v.toInt = sh_by (s.2 34) (upN a i l) i) i ?_ ?_ i 0 ((0 : Int32), (0 : Int32)) (by omega) ⟨rfl, nI_0.symm⟩
  · rintro k ⟨x3, x4⟩ hk ⟨g1, g2⟩
    have g2 : x4 = nI k := g2
    have g1 : x3.toInt = si (fun j => if upN a i l j = upN a i l i ∧ (s.2 34 j).toInt < (s.2 34 i).toInt then (1 : Int) else 0) k := g1
    have hr := si_rng (f := fun j => if upN a i l j = upN a i l i ∧ (s.2 34 j).toInt < (s.2 34 i).toInt then (1 : Int) else 0) (c := 1) (n := k) (fun j hj => by
      show 0 ≤ (if upN a i l j = upN a i l i ∧ (s.2 34 j).toInt < (s.2 34 i).toInt then (1 : Int) else 0) ∧ (if upN a i l j = upN a i l i ∧ (s.2 34 j).toInt < (s.2 34 i).toInt then (1 : Int) else 0) ≤ 1
      by_cases c : upN a i l j = upN a i l i ∧ (s.2 34 j).toInt < (s.2 34 i).toInt
      · rw [if_pos c]; omega
      · rw [if_neg c]; omega)
    have n1 : ¬ nI i ≤ nI k := nI_ge hk (by omega)
    have h9 : inb (nI k) 9 = true := ib_nI (by omega) (by omega)
    have h9i : inb (nI i) 9 = true := ib_nI (by omega) (by omega)
    have hak := ha k hk
    show ∃ s', Shed_movesBy_l5 (nI i) (nI l) s x3 x4 = some (.inl s') ∧ s'.1.toInt = si (fun j => if upN a i l j = upN a i l i ∧ (s.2 34 j).toInt < (s.2 34 i).toInt then (1 : Int) else 0) k + (if upN a i l k = upN a i l i ∧ (s.2 34 k).toInt < (s.2 34 i).toInt then (1 : Int) else 0) ∧ s'.2 = nI (k + 1)
    rw [upN_s, upN_n (by omega : k ≠ i), g2]
    unfold Shed_movesBy_l5
    rw [if_neg n1, chk_t h9, bnd_eq, nI_clamp (n := k) (by omega), hp k hk, nI_1]
    by_cases c : a k = l
    · rw [if_pos (by rw [c]), chk_t h9, bnd_eq, chk_t h9i, bnd_eq, nI_clamp (n := i) (by omega)]
      by_cases c2 : s.2 34 i ≤ s.2 34 k
      · rw [if_pos c2, bnd_eq]
        rw [fa_le] at c2
        exact ⟨_, rfl, by rw [if_neg (fun q => by omega)]; show x3.toInt = _; rw [upN_s] at g1; omega, rfl⟩
      · rw [if_neg c2, bnd_eq, bnd_eq]
        rw [fa_le] at c2
        refine ⟨_, rfl, ?_, rfl⟩
        rw [if_pos ⟨c, by omega⟩]
        show (x3 + 1).toInt = _
        rw [add1 (by omega)]
        rw [upN_s] at g1
        omega
    · rw [if_neg (fun q => c ((nI_eq (by omega) (by omega)).mp q)), bnd_eq]
      exact ⟨_, rfl, by rw [if_neg (fun q => c q.1)]; show x3.toInt = _; rw [upN_s] at g1; omega, rfl⟩
  · rintro ⟨x3, x4⟩ ⟨g1, g2⟩
    have g2 : x4 = nI i := g2
    refine ⟨x3, ?_, g1⟩
    show Shed_movesBy_l5 (nI i) (nI l) s x3 x4 = _
    unfold Shed_movesBy_l5
    rw [g2, if_pos (Int32.le_refl _)]
    rfl
def Fr (x s : MS) : Prop := (∀ j, j ≠ 15 → s.1 j = x.1 j) ∧ (∀ j, j ≠ 31 → j ≠ 35 → j ≠ 36 → s.2 j = x.2 j)
theorem fr_pa {x s : MS} (h : Fr x s) {i k : Nat} {v : Int32} (hi : i = 31 ∨ i = 35 ∨ i = 36) : Fr x (pa s i k v) := by
  refine ⟨h.1, fun j h1 h2 h3 => ?_⟩
  show (if j = i then upd (s.2 i) k v else s.2 j) = x.2 j
  rw [if_neg (by omega)]
  exact h.2 j h1 h2 h3
def SS (n lanes : Nat) (room : Int) (len : Nat → Int32) (i : Nat) (a : Nat → Nat) (b : Nat → Nat) : Prop := sh_ok n lanes b ∧ sh_fit n lanes room len b ∧ can n b ∧ ∀ k, k < i → b k = a k
def SH (x : MS) (n lanes : Nat) (room : Int) : Prop := x.1 14 = nI n ∧ n ≤ 9 ∧ x.1 16 = nI lanes ∧ 1 ≤ lanes ∧ lanes ≤ 4 ∧ (x.1 17).toInt = room ∧ room ≤ 2000 ∧ ∀ k, k < n → 10 ≤ (x.2 33 k).toInt ∧ (x.2 33 k).toInt ≤ 400
theorem res_le {n : Nat} {out : Nat → Int32} {S : (Nat → Nat) → Prop} {f f' : Int} {B B' : Nat → Int32} (h : Res n out S f B f' B') : f' ≤ f := by
  rcases h with ⟨h1, -⟩ | ⟨a, -, h2, h3, -⟩ <;> omega
theorem pa_ne (s : MS) {i j : Nat} (k : Nat) (v : Int32) (h : j ≠ i) : (pa s i k v).2 j = s.2 j := if_neg h
theorem pa_row (s : MS) (i k : Nat) (v : Int32) : (pa s i k v).2 i = upd (s.2 i) k v := if_pos rfl
theorem put_ok {x : MS} {n lanes : Nat} {room : Int} (hx : SH x n lanes room) : ∀ (fuel i : Nat) (a : Nat → Nat) (mv : Int32) (s : MS), i ≤ n → n < i + fuel → Fr x s → (∀ k, k < i → s.2 35 k = nI (a k)) → (∀ k, k < i → a k < lanes) → can i a → (∀ l, l < 4 → (s.2 36 l).toInt = sh_use (x.2 33) a l i) → (∀ l, l < lanes → sh_use (x.2 33) a l i ≤ room) → mv.toInt = sh_mv (x.2 34) a i → mv.toInt < (s.1 15).toInt → (s.1 15).toInt ≤ 81 →
    ∃ s', f_Shed_putFrom fuel (nI i) (nI (us a i)) mv s = some s' ∧ Fr x s' ∧ (∀ k, k < i → s'.2 35 k = s.2 35 k) ∧ (∀ l, l < 4 → s'.2 36 l = s.2 36 l) ∧ Res n (x.2 34) (SS n lanes room (x.2 33) i a) (s.1 15).toInt (s.2 31) (s'.1 15).toInt (s'.2 31)
  | 0, i, a, mv, s, h1, h2, _, _, _, _, _, _, _, _, _ => by omega
  | fuel + 1, i, a, mv, s, hin, hfu, hF, hp, ha, hc, hu, hr, hm, hf, hf8 => by
    obtain ⟨x1, x2, x3, x4, x5, x6, x7, x8⟩ := id hx
    have e14 : s.1 14 = nI n := (hF.1 14 (by omega)).trans x1
    show ∃ s', b_f_Shed_putFrom (f_Shed_putFrom fuel) (nI i) (nI (us a i)) mv s = some s' ∧ _
    unfold b_f_Shed_putFrom
    by_cases hlt : i < n
    · rw [e14, if_pos (nI_lt hlt (by omega))]
      obtain ⟨N, hN⟩ : ∃ N, N = if us a i + 1 < lanes then us a i + 1 else lanes := ⟨_, rfl⟩
      have hN1 : N ≤ lanes ∧ N ≤ us a i + 1 ∧ (N = lanes ∨ N = us a i + 1) := by
        rw [hN]
        by_cases c : us a i + 1 < lanes
        · rw [if_pos c]; omega
        · rw [if_neg c]; omega
      have husl : us a i ≤ 4 := by
        by_cases i0 : i = 0
        · rw [i0]; exact Nat.zero_le 4
        · have key : ∀ k, k ≤ i → us a k ≤ lanes := by
            intro k
            induction k with
            | zero => intro _; exact Nat.zero_le _
            | succ k ih =>
              intro hk
              have h1 := ih (by omega)
              have h2 := ha k (by omega)
              show (if us a k < a k + 1 then a k + 1 else us a k) ≤ lanes
              by_cases c : us a k < a k + 1
              · rw [if_pos c]; omega
              · rw [if_neg c]; omega
          have := key i (Nat.le_refl i)
          omega
      refine loop_inv (f := fun z => Shed_putFrom_l34 (f_Shed_putFrom fuel) (nI i) (nI (us a i)) mv z.1 z.2) (fun L z => z.1 = nI L ∧ Fr x z.2 ∧ (∀ k, k < i → z.2.2 35 k = s.2 35 k) ∧ (∀ l, l < 4 → z.2.2 36 l = s.2 36 l) ∧ Res n (x.2 34) (fun b => SS n lanes room (x.2 33) i a b ∧ b i < L) (s.1 15).toInt (s.2 31) (z.2.1 15).toInt (z.2.2 31)) (fun s' => Fr x s' ∧ (∀ k, k < i → s'.2 35 k = s.2 35 k) ∧ (∀ l, l < 4 → s'.2 36 l = s.2 36 l) ∧ Res n (x.2 34) (SS n lanes room (x.2 33) i a) (s.1 15).toInt (s.2 31) (s'.1 15).toInt (s'.2 31)) N ?_ ?_ N 0 ((0 : Int32), s) (by omega) ⟨nI_0.symm, hF, fun _ _ => rfl, fun _ _ => rfl, res_none (fun b hb => absurd hb.2 (by omega))⟩
      · rintro L ⟨z1, t⟩ hL ⟨g1, g2, g3, g4, g5⟩
        have g1 : z1 = nI L := g1
        have g2 : Fr x t := g2
        have g3 : ∀ k, k < i → t.2 35 k = s.2 35 k := g3
        have g4 : ∀ l, l < 4 → t.2 36 l = s.2 36 l := g4
        have g5 : Res n (x.2 34) (fun b => SS n lanes room (x.2 33) i a b ∧ b i < L) (s.1 15).toInt (s.2 31) (t.1 15).toInt (t.2 31) := g5
        have t16 : t.1 16 = nI lanes := (g2.1 16 (by omega)).trans x3
        have t17 : t.1 17 = x.1 17 := g2.1 17 (by omega)
        have t33 : t.2 33 = x.2 33 := g2.2 33 (by omega) (by omega) (by omega)
        have t34 : t.2 34 = x.2 34 := g2.2 34 (by omega) (by omega) (by omega)
        have n1 : ¬ nI lanes ≤ nI L := nI_ge (by omega) (by omega)
        have n2 : ¬ nI (us a i) < nI L := nI_nlt (by omega) (by omega)
        have h4 : inb (nI L) 4 = true := ib_nI (by omega) (by omega)
        have h9 : inb (nI i) 9 = true := ib_nI (by omega) (by omega)
        obtain ⟨v1, hv1, hv2⟩ := mby_eq (s := t) (i := i) (l := L) (a := a) (by omega) (by omega) (fun k hk => (g3 k hk).trans (hp k hk)) (fun k hk => by have := ha k hk; omega)
        rw [t34] at hv2
        have hbr := by_rng (x.2 34) (upN a i L) i
        have hmr := mv_rng (x.2 34) a (n := i) (by omega)
        have hsum : (mv + v1).toInt = mv.toInt + v1.toInt := fb_addI (by omega) (by omega)
        have hpre : ∀ k, k < i → upN a i L k = a k := fun k hk => upN_n (by omega)
        have hmv : (mv + v1).toInt = sh_mv (x.2 34) (upN a i L) (i + 1) := by
          show _ = sh_mv (x.2 34) (upN a i L) i + sh_by (x.2 34) (upN a i L) i
          rw [hsum, hv2, hm, mv_cong (b := a) hpre]
        have huse : ∀ l, sh_use (x.2 33) (upN a i L) l (i + 1) = sh_use (x.2 33) a l i + (if L = l then (x.2 33 i).toInt else 0) := by
          intro l
          show sh_use (x.2 33) (upN a i L) l i + (if upN a i L i = l then (x.2 33 i).toInt else 0) = _
          rw [upN_s, use_cong (b := a) hpre]
        have hli := x8 i hlt
        have hLL := hr L (by omega)
        have huL := hu L (by omega)
        have hu0 : 0 ≤ sh_use (x.2 33) a L i := by
          have := use_mono (len := x.2 33) (a := a) (l := L) (i := 0) (n := i) (fun k hk => by have := x8 k (by omega); omega) (by omega)
          exact this
        have hadd : (t.2 36 L + x.2 33 i).toInt = sh_use (x.2 33) (upN a i L) L (i + 1) := by
          rw [huse, if_pos rfl, g4 L (by omega), fb_addI (by omega) (by omega), huL]
        have hT : ∀ b, SS n lanes room (x.2 33) (i + 1) (upN a i L) b ↔ SS n lanes room (x.2 33) i a b ∧ b i = L := by
          intro b
          constructor
          · rintro ⟨b1, b2, b3, b4⟩
            refine ⟨⟨b1, b2, b3, fun k hk => ?_⟩, ?_⟩
            · rw [b4 k (by omega), hpre k hk]
            · rw [b4 i (by omega), upN_s]
          · rintro ⟨⟨b1, b2, b3, b4⟩, b5⟩
            refine ⟨b1, b2, b3, fun k hk => ?_⟩
            by_cases e : k = i
            · rw [e, upN_s, b5]
            · rw [upN_n e, b4 k (by omega)]
        have fin : ∀ (f2 : Int) (B2 : Nat → Int32), Res n (x.2 34) (SS n lanes room (x.2 33) (i + 1) (upN a i L)) (t.1 15).toInt (t.2 31) f2 B2 → Res n (x.2 34) (fun b => SS n lanes room (x.2 33) i a b ∧ b i < L + 1) (s.1 15).toInt (s.2 31) f2 B2 := by
          intro f2 B2 hres
          refine res_iff ?_ (res_comb g5 hres ?_)
          · intro b
            constructor
            · rintro (q | q)
              · exact ⟨q.1, by omega⟩
              · have := (hT b).mp q
                exact ⟨this.1, by omega⟩
            · rintro ⟨q1, q2⟩
              by_cases e : b i = L
              · exact Or.inr ((hT b).mpr ⟨q1, e⟩)
              · exact Or.inl ⟨q1, by omega⟩
          · rintro b1 b2 ⟨p1, p2⟩ p3
            have p4 := (hT b2).mp p3
            refine Or.inr ⟨i, hlt, by omega, fun j hj => ?_⟩
            rw [p1.2.2.2 j hj, p4.1.2.2.2 j hj]
        have hbi : ∀ b, SS n lanes room (x.2 33) (i + 1) (upN a i L) b → sh_mv (x.2 34) (upN a i L) (i + 1) ≤ sh_mv (x.2 34) b n ∧ sh_use (x.2 33) (upN a i L) L (i + 1) ≤ room := by
          rintro b ⟨b1, b2, b3, b4⟩
          rw [← mv_cong (a := b) b4, ← use_cong (a := b) b4]
          have q1 := b2 L (by omega)
          have q2 := use_mono (len := x.2 33) (a := b) (l := L) (i := i + 1) (n := n) (fun k hk => by have := x8 k hk; omega) (by omega)
          exact ⟨mv_mono (by omega), by omega⟩
        show ∃ s', Shed_putFrom_l34 (f_Shed_putFrom fuel) (nI i) (nI (us a i)) mv z1 t = some (.inl s') ∧ _
        rw [g1]
        unfold Shed_putFrom_l34
        rw [t16, if_neg n1, if_neg n2, hv1, Option.bind_some, bnd_eq, chk_t h4, bnd_eq, chk_t h9, bnd_eq, nI_clamp (n := L) (by omega), nI_clamp (n := i) (by omega), t33, t17]
        by_cases c1 : x.1 17 < t.2 36 L + x.2 33 i
        · rw [if_pos c1, bnd_eq, nI_1]
          rw [fa_lt, hadd, x6] at c1
          exact ⟨_, rfl, rfl, g2, g3, g4, fin _ _ (res_none (fun b hb => by have := hbi b hb; omega))⟩
        · rw [if_neg c1]
          rw [fa_lt, hadd, x6] at c1
          by_cases c2 : mv + v1 < t.1 15
          · rw [if_pos c2]
            rw [fa_lt] at c2
            have e36 : (pa t 35 i (nI L)).2 36 = t.2 36 := rfl
            have e33 : (pa t 35 i (nI L)).2 33 = x.2 33 := t33
            have hus : (if nI (us a i) < nI (L + 1) then nI (L + 1) else nI (us a i)) = nI (us (upN a i L) (i + 1)) := by
              have e1 : us (upN a i L) (i + 1) = if us a i < L + 1 then L + 1 else us a i := by
                show (if us (upN a i L) i < upN a i L i + 1 then upN a i L i + 1 else us (upN a i L) i) = _
                rw [upN_s, us_cong (b := a) hpre]
              rw [e1]
              by_cases c : us a i < L + 1
              · rw [if_pos c, if_pos (nI_lt c (by omega))]
              · rw [if_neg c, if_neg (nI_nlt (by omega) (by omega))]
            obtain ⟨t2, ht2⟩ : ∃ t2, t2 = pa (pa t 35 i (nI L)) 36 L (t.2 36 L + x.2 33 i) := ⟨_, rfl⟩
            have r35 : t2.2 35 = upd (t.2 35) i (nI L) := by rw [ht2]; rfl
            have r36 : t2.2 36 = upd (t.2 36) L (t.2 36 L + x.2 33 i) := by rw [ht2]; rfl
            have r31 : t2.2 31 = t.2 31 := by rw [ht2]; rfl
            have r15 : t2.1 15 = t.1 15 := by rw [ht2]; rfl
            have hF2 : Fr x t2 := by rw [ht2]; exact fr_pa (fr_pa g2 (by omega)) (by omega)
            obtain ⟨t3, k1, k2, k3, k4, k5⟩ := put_ok hx fuel (i + 1) (upN a i L) (mv + v1) t2 (by omega) (by omega) hF2 (fun k hk => by
                rw [r35]
                by_cases e : k = i
                · rw [e, pk_us, upN_s]
                · rw [pk_un e, upN_n e, g3 k (by omega)]
                  exact hp k (by omega)) (fun k hk => by
                by_cases e : k = i
                · rw [e, upN_s]; omega
                · rw [upN_n e]; exact ha k (by omega)) (fun k hk => by
                by_cases e : k = i
                · rw [e, upN_s, us_cong (b := a) hpre]; omega
                · rw [upN_n e, us_cong (b := a) (fun j hj => hpre j (by omega))]; exact hc k (by omega)) (fun l hl => by
                rw [r36]
                by_cases e : l = L
                · rw [e, pk_us]; exact hadd
                · rw [pk_un e, huse, if_neg (fun q => e q.symm), g4 l hl, hu l hl]
                  omega) (fun l hl => by
                by_cases e : l = L
                · rw [e]; omega
                · rw [huse, if_neg (fun q => e q.symm)]
                  have := hr l hl
                  omega) hmv (by rw [r15]; exact c2) (by rw [r15]; have := res_le g5; omega)
            rw [r15, r31] at k5
            simp only [chk_t h4, chk_t h9, bnd_eq, nI_1]
            rw [e36, e33, ← ht2, hus, k1, Option.bind_some]
            have u36 : t3.2 36 L = t.2 36 L + x.2 33 i := by rw [k4 L (by omega), r36, pk_us]
            have u33 : t3.2 33 = x.2 33 := k2.2 33 (by omega) (by omega) (by omega)
            have hback : t3.2 36 L - t3.2 33 i = t.2 36 L := by
              rw [u36, u33]
              exact Int32.add_sub_cancel _ _
            rw [hback]
            refine ⟨_, rfl, rfl, fr_pa k2 (by omega), fun k hk => ?_, fun l hl => ?_, fin _ _ k5⟩
            · show t3.2 35 k = s.2 35 k
              rw [k3 k (by omega), r35, pk_un (by omega), g3 k hk]
            · show upd (t3.2 36) L (t.2 36 L) l = s.2 36 l
              by_cases e : l = L
              · rw [e, pk_us, g4 L (by omega)]
              · rw [pk_un e, k4 l hl, r36, pk_un e, g4 l hl]
          · rw [if_neg c2, bnd_eq, nI_1]
            rw [fa_lt] at c2
            exact ⟨_, rfl, rfl, g2, g3, g4, fin _ _ (res_none (fun b hb => by have := hbi b hb; omega))⟩
      · rintro ⟨z1, t⟩ ⟨g1, g2, g3, g4, g5⟩
        have g1 : z1 = nI N := g1
        have g2 : Fr x t := g2
        have t16 : t.1 16 = nI lanes := (g2.1 16 (by omega)).trans x3
        have hres : Res n (x.2 34) (SS n lanes room (x.2 33) i a) (s.1 15).toInt (s.2 31) (t.1 15).toInt (t.2 31) := by
          refine res_iff (fun b => ⟨fun q => q.1, fun q => ⟨q, ?_⟩⟩) g5
          have q1 := q.1 i hlt
          have q2 := q.2.2.1 i hlt
          rw [us_cong (b := a) q.2.2.2] at q2
          omega
        show ∃ r, Shed_putFrom_l34 (f_Shed_putFrom fuel) (nI i) (nI (us a i)) mv z1 t = some (.inr r) ∧ _
        rw [g1]
        unfold Shed_putFrom_l34
        rw [t16]
        by_cases c : nI lanes ≤ nI N
        · rw [if_pos c]
          exact ⟨t, rfl, g2, g3, g4, hres⟩
        · have c2 : nI (us a i) < nI N := by
            rcases hN1.2.2 with q | q
            · exact absurd (by rw [q]; exact Int32.le_refl _) c
            · rw [q]; exact nI_lt (by omega) (by omega)
          rw [if_neg c, if_pos c2]
          exact ⟨t, rfl, g2, g3, g4, hres⟩
    · have hi : i = n := by omega
      subst hi
      rw [e14, if_neg (nI_nlt (Nat.le_refl i) (by omega)), bnd_eq]
      have e2 : (pf s 15 mv).1 14 = nI i := e14
      have hck : decide (0 ≤ (0 : Int32).toInt ∧ 0 ≤ (0 : Int32).toInt ∧ 0 ≤ (nI i).toInt ∧ (0 : Int32).toInt + (nI i).toInt ≤ (9 : Int) ∧ (0 : Int32).toInt + (nI i).toInt ≤ (9 : Int)) = true := by
        refine decide_eq_true ?_
        rw [nI_toInt (by omega)]
        show (0 : Int) ≤ 0 ∧ (0 : Int) ≤ 0 ∧ 0 ≤ (i : Int) ∧ 0 + (i : Int) ≤ 9 ∧ 0 + (i : Int) ≤ 9
        omega
      rw [e2, chk_t hck, bnd_eq, nI_clamp (n := i) (by omega)]
      refine ⟨_, rfl, ⟨fun j hj => ?_, fun j h1 h2 h3 => ?_⟩, fun _ _ => rfl, fun _ _ => rfl, Or.inr ⟨a, ⟨ha, hr, hc, fun _ _ => rfl⟩, ?_, ?_, fun k hk => ?_, fun b hb => ?_⟩⟩
      · show (if j = 15 then mv else s.1 j) = x.1 j
        rw [if_neg hj]; exact hF.1 j hj
      · show (if j = 31 then _ else s.2 j) = x.2 j
        rw [if_neg h1]; exact hF.2 j h1 h2 h3
      · omega
      · show mv.toInt = _
        exact hm
      · show va_cpy (s.2 35) (s.2 31) 0 0 i k = nI (a k)
        unfold va_cpy
        rw [if_pos (by omega), Nat.zero_add, Nat.sub_zero]
        exact hp k hk
      · exact Or.inr ⟨(mv_cong hb.2.2.2).symm, lex_refl (fun k hk => (hb.2.2.2 k hk).symm)⟩
