-- ===== one loop with an invariant =====
theorem loop_inv {S R : Type} {f : S → Option (S ⊕ R)} (K : Nat → S → Prop) (P : R → Prop) (N : Nat) (hs : ∀ k s, k < N → K k s → ∃ s', f s = some (.inl s') ∧ K (k + 1) s') (he : ∀ s, K N s → ∃ r, f s = some (.inr r) ∧ P r) : ∀ (n k : Nat) (s : S), k + n = N → K k s → ∃ r, loop f s = some r ∧ P r
  | 0, k, s, hk, h => by
    have hk : k = N := hk
    subst hk
    obtain ⟨r, h1, h3⟩ := he s h
    exact ⟨r, loop_inr h1, h3⟩
  | n + 1, k, s, hk, h => by
    obtain ⟨s', h1, h3⟩ := hs k s (by omega) h
    obtain ⟨r, h4, h6⟩ := loop_inv K P N hs he n (k + 1) s' (by omega) h3
    exact ⟨r, (loop_inl h1).trans h4, h6⟩
-- ===== the shed: ways to fill it =====
def upN (a : Nat → Nat) (i v : Nat) : Nat → Nat := fun k => if k = i then v else a k
theorem upN_s {a : Nat → Nat} {i v : Nat} : upN a i v i = v := if_pos rfl
theorem upN_n {a : Nat → Nat} {i v k : Nat} (h : k ≠ i) : upN a i v k = a k := if_neg h
/-- how many lanes the first k use, if they take no lane before an earlier one is used -/
def us (a : Nat → Nat) : Nat → Nat
  | 0 => 0
  | k + 1 => if us a k < a k + 1 then a k + 1 else us a k
def can (n : Nat) (a : Nat → Nat) : Prop := ∀ k, k < n → a k ≤ us a k
theorem us_cong {a b : Nat → Nat} : ∀ {n : Nat}, (∀ k, k < n → a k = b k) → us a n = us b n
  | 0, _ => rfl
  | n + 1, h => by
    show (if us a n < a n + 1 then a n + 1 else us a n) = if us b n < b n + 1 then b n + 1 else us b n
    rw [us_cong (fun k hk => h k (by omega)), h n (by omega)]
theorem us_gt {a : Nat → Nat} : ∀ {n j : Nat}, j < n → a j < us a n
  | 0, j, h => by omega
  | n + 1, j, h => by
    show a j < if us a n < a n + 1 then a n + 1 else us a n
    by_cases e : j = n
    · subst e
      by_cases c : us a j < a j + 1
      · rw [if_pos c]; omega
      · rw [if_neg c]; omega
    · have ih := us_gt (a := a) (n := n) (j := j) (by omega)
      by_cases c : us a n < a n + 1
      · rw [if_pos c]; omega
      · rw [if_neg c]; omega
theorem si_mono {f : Nat → Int} {i : Nat} : ∀ {n : Nat}, (∀ k, k < n → 0 ≤ f k) → i ≤ n → si f i ≤ si f n
  | 0, _, h => by
    have : i = 0 := by omega
    subst this
    exact Int.le_refl _
  | n + 1, hf, h => by
    by_cases e : i = n + 1
    · rw [e]; exact Int.le_refl _
    · have ih := si_mono (f := f) (i := i) (n := n) (fun k hk => hf k (by omega)) (by omega)
      have h1 := hf n (by omega)
      show si f i ≤ si f n + f n
      omega
theorem use_cong {len : Nat → Int32} {a b : Nat → Nat} {l n : Nat} (h : ∀ k, k < n → a k = b k) : sh_use len a l n = sh_use len b l n :=
  si_cong (fun k hk => by
    show (if a k = l then (len k).toInt else 0) = if b k = l then (len k).toInt else 0
    rw [h k hk])
theorem by_cong {out : Nat → Int32} {a b : Nat → Nat} {k : Nat} (h : ∀ j, j ≤ k → a j = b j) : sh_by out a k = sh_by out b k :=
  si_cong (fun j hj => by
    show (if a j = a k ∧ (out j).toInt < (out k).toInt then (1 : Int) else 0) = if b j = b k ∧ (out j).toInt < (out k).toInt then 1 else 0
    rw [h j (by omega), h k (by omega)])
theorem mv_cong {out : Nat → Int32} {a b : Nat → Nat} {n : Nat} (h : ∀ k, k < n → a k = b k) : sh_mv out a n = sh_mv out b n :=
  si_cong (fun k hk => by_cong (fun j hj => h j (by omega)))
theorem use_mono {len : Nat → Int32} {a : Nat → Nat} {l i n : Nat} (hl : ∀ k, k < n → 0 ≤ (len k).toInt) (hi : i ≤ n) : sh_use len a l i ≤ sh_use len a l n :=
  si_mono (fun k hk => by
    show 0 ≤ if a k = l then (len k).toInt else 0
    by_cases c : a k = l
    · rw [if_pos c]; exact hl k hk
    · rw [if_neg c]; omega) hi
theorem by_rng (out : Nat → Int32) (a : Nat → Nat) (k : Nat) : 0 ≤ sh_by out a k ∧ sh_by out a k ≤ (k : Int) := by
  have h := si_rng (f := fun j => if a j = a k ∧ (out j).toInt < (out k).toInt then (1 : Int) else 0) (c := 1) (n := k) (fun j hj => by
    show 0 ≤ (if a j = a k ∧ (out j).toInt < (out k).toInt then (1 : Int) else 0) ∧ (if a j = a k ∧ (out j).toInt < (out k).toInt then (1 : Int) else 0) ≤ 1
    by_cases c : a j = a k ∧ (out j).toInt < (out k).toInt
    · rw [if_pos c]; omega
    · rw [if_neg c]; omega)
  show 0 ≤ si _ k ∧ si _ k ≤ _
  omega
theorem mv_rng (out : Nat → Int32) (a : Nat → Nat) {n : Nat} (hn : n ≤ 9) : 0 ≤ sh_mv out a n ∧ sh_mv out a n ≤ 72 := by
  have h := si_rng (f := sh_by out a) (c := 8) (n := n) (fun k hk => by
    have := by_rng out a k
    omega)
  show 0 ≤ si _ n ∧ si _ n ≤ _
  omega
theorem mv_mono {out : Nat → Int32} {a : Nat → Nat} {i n : Nat} (hi : i ≤ n) : sh_mv out a i ≤ sh_mv out a n :=
  si_mono (fun k _ => (by_rng out a k).1) hi
theorem lex_refl {n : Nat} {a b : Nat → Nat} (h : ∀ k, k < n → a k = b k) : lex n a b := Or.inl h
theorem lex_trans {n : Nat} {a b c : Nat → Nat} (h1 : lex n a b) (h2 : lex n b c) : lex n a c := by
  rcases h1 with e | ⟨k, k1, k2, k3⟩
  · rcases h2 with e2 | ⟨j, j1, j2, j3⟩
    · exact Or.inl (fun k hk => (e k hk).trans (e2 k hk))
    · refine Or.inr ⟨j, j1, ?_, fun i hi => (e i (by omega)).trans (j3 i hi)⟩
      have := e j j1
      omega
  · rcases h2 with e2 | ⟨j, j1, j2, j3⟩
    · refine Or.inr ⟨k, k1, ?_, fun i hi => (k3 i hi).trans (e2 i (by omega))⟩
      have := e2 k k1
      omega
    · rcases Nat.lt_trichotomy k j with q | q | q
      · refine Or.inr ⟨k, k1, ?_, fun i hi => (k3 i hi).trans (j3 i (by omega))⟩
        have := j3 k q
        omega
      · subst q
        exact Or.inr ⟨k, k1, by omega, fun i hi => (k3 i hi).trans (j3 i hi)⟩
      · refine Or.inr ⟨j, j1, ?_, fun i hi => (k3 i (by omega)).trans (j3 i hi)⟩
        have := k3 j q
        omega
theorem lex_anti {n : Nat} {a b : Nat → Nat} (h1 : lex n a b) (h2 : lex n b a) : ∀ k, k < n → a k = b k := by
  rcases h1 with e | ⟨k, k1, k2, k3⟩
  · exact e
  · rcases h2 with e2 | ⟨j, j1, j2, j3⟩
    · exact fun i hi => (e2 i hi).symm
    · exfalso
      rcases Nat.lt_trichotomy k j with q | q | q
      · have := j3 k q
        omega
      · subst q
        omega
      · have := k3 j q
        omega
/-- what a search over the ways S makes of the best that it had -/
def Res (n : Nat) (out : Nat → Int32) (S : (Nat → Nat) → Prop) (f : Int) (B : Nat → Int32) (f' : Int) (B' : Nat → Int32) : Prop :=
  (f' = f ∧ (∀ k, k < n → B' k = B k) ∧ ∀ b, S b → f ≤ sh_mv out b n) ∨
  ∃ a, S a ∧ sh_mv out a n < f ∧ f' = sh_mv out a n ∧ (∀ k, k < n → B' k = nI (a k)) ∧ ∀ b, S b → sh_mv out a n < sh_mv out b n ∨ (sh_mv out a n = sh_mv out b n ∧ lex n a b)
theorem res_none {n : Nat} {out : Nat → Int32} {S : (Nat → Nat) → Prop} {f : Int} {B : Nat → Int32} (h : ∀ b, S b → f ≤ sh_mv out b n) : Res n out S f B f B := Or.inl ⟨rfl, fun _ _ => rfl, h⟩
theorem res_iff {n : Nat} {out : Nat → Int32} {S T : (Nat → Nat) → Prop} {f f' : Int} {B B' : Nat → Int32} (e : ∀ b, S b ↔ T b) (h : Res n out S f B f' B') : Res n out T f B f' B' := by
  rcases h with ⟨h1, h2, h3⟩ | ⟨a, h1, h2, h3, h4, h5⟩
  · exact Or.inl ⟨h1, h2, fun b hb => h3 b ((e b).mpr hb)⟩
  · exact Or.inr ⟨a, (e a).mp h1, h2, h3, h4, fun b hb => h5 b ((e b).mpr hb)⟩
theorem res_comb {n : Nat} {out : Nat → Int32} {S T : (Nat → Nat) → Prop} {f0 f1 f2 : Int} {B0 B1 B2 : Nat → Int32} (h1 : Res n out S f0 B0 f1 B1) (h2 : Res n out T f1 B1 f2 B2) (hl : ∀ a b, S a → T b → lex n a b) : Res n out (fun b => S b ∨ T b) f0 B0 f2 B2 := by
  rcases h1 with ⟨p1, p2, p3⟩ | ⟨a, p1, p2, p3, p4, p5⟩
  · subst p1
    rcases h2 with ⟨q1, q2, q3⟩ | ⟨c, q1, q2, q3, q4, q5⟩
    · exact Or.inl ⟨q1, fun k hk => (q2 k hk).trans (p2 k hk), fun b hb => hb.elim (p3 b) (q3 b)⟩
    · refine Or.inr ⟨c, Or.inr q1, q2, q3, q4, fun b hb => ?_⟩
      rcases hb with hb | hb
      · have := p3 b hb
        exact Or.inl (by omega)
      · exact q5 b hb
  · subst p3
    rcases h2 with ⟨q1, q2, q3⟩ | ⟨c, q1, q2, q3, q4, q5⟩
    · refine Or.inr ⟨a, Or.inl p1, p2, q1, fun k hk => (q2 k hk).trans (p4 k hk), fun b hb => ?_⟩
      rcases hb with hb | hb
      · exact p5 b hb
      · have := q3 b hb
        by_cases e : sh_mv out a n = sh_mv out b n
        · exact Or.inr ⟨e, hl a b p1 hb⟩
        · exact Or.inl (by omega)
    · refine Or.inr ⟨c, Or.inr q1, by omega, q3, q4, fun b hb => ?_⟩
      rcases hb with hb | hb
      · rcases p5 b hb with z | ⟨z, -⟩
        · exact Or.inl (by omega)
        · exact Or.inl (by omega)
      · exact q5 b hb
-- ===== lanes may change their names =====
def sw (p q l : Nat) : Nat := if l = p then q else if l = q then p else l
theorem sw_iff {p q a l : Nat} : sw p q a = l ↔ a = sw p q l := by
  unfold sw
  repeat' split
  all_goals omega
theorem sw_inj {p q a b : Nat} : sw p q a = sw p q b ↔ a = b := by
  unfold sw
  repeat' split
  all_goals omega
theorem sw_lt {p q l n : Nat} (hp : p < n) (hq : q < n) (hl : l < n) : sw p q l < n := by
  unfold sw
  repeat' split
  all_goals omega
theorem sw_id {p q l : Nat} (h1 : l ≠ p) (h2 : l ≠ q) : sw p q l = l := by
  unfold sw
  rw [if_neg h1, if_neg h2]
theorem can_ex {n lanes : Nat} {room : Int} {len out : Nat → Int32} {b : Nat → Nat} (hok : sh_ok n lanes b) (hf : sh_fit n lanes room len b) : ∀ k, k ≤ n → ∃ c, sh_ok n lanes c ∧ sh_fit n lanes room len c ∧ can k c ∧ sh_mv out c n = sh_mv out b n ∧ lex n c b
  | 0, _ => ⟨b, hok, hf, fun k h => absurd h (by omega), rfl, Or.inl (fun _ _ => rfl)⟩
  | k + 1, hk => by
    obtain ⟨c, c1, c2, c3, c4, c5⟩ := can_ex (out := out) hok hf k (by omega)
    by_cases h : c k ≤ us c k
    · refine ⟨c, c1, c2, fun j hj => ?_, c4, c5⟩
      by_cases e : j = k
      · rw [e]; exact h
      · exact c3 j (by omega)
    · obtain ⟨u, hu⟩ : ∃ u, u = us c k := ⟨_, rfl⟩
      obtain ⟨w, hw⟩ : ∃ w, w = c k := ⟨_, rfl⟩
      have huw : u < w := by omega
      have hwl : w < lanes := by rw [hw]; exact c1 k (by omega)
      have hpre : ∀ j, j < k → sw u w (c j) = c j := fun j hj => by
        have := us_gt (a := c) hj
        exact sw_id (by omega) (by omega)
      have hk2 : sw u w (c k) = u := by
        rw [← hw]
        unfold sw
        rw [if_neg (by omega), if_pos rfl]
      refine ⟨fun j => sw u w (c j), fun j hj => sw_lt (by omega) hwl (c1 j hj), fun l hl => ?_, fun j hj => ?_, ?_, ?_⟩
      · have e : sh_use len (fun j => sw u w (c j)) l n = sh_use len c (sw u w l) n := si_cong (fun j hj => by
          show (if sw u w (c j) = l then (len j).toInt else 0) = if c j = sw u w l then (len j).toInt else 0
          by_cases z : c j = sw u w l
          · rw [if_pos z, if_pos (sw_iff.mpr z)]
          · rw [if_neg z, if_neg (fun q => z (sw_iff.mp q))])
        rw [e]
        exact c2 _ (sw_lt (by omega) hwl hl)
      · have e : us (fun j => sw u w (c j)) j = us c j := us_cong (fun i hi => hpre i (by omega))
        rw [e]
        show sw u w (c j) ≤ us c j
        by_cases z : j = k
        · rw [z, hk2]; omega
        · rw [hpre j (by omega)]
          exact c3 j (by omega)
      · rw [← c4]
        refine si_cong (fun i hi => si_cong (fun j hj => ?_))
        show (if sw u w (c j) = sw u w (c i) ∧ (out j).toInt < (out i).toInt then (1 : Int) else 0) = if c j = c i ∧ (out j).toInt < (out i).toInt then 1 else 0
        by_cases z : c j = c i ∧ (out j).toInt < (out i).toInt
        · rw [if_pos z, if_pos ⟨sw_inj.mpr z.1, z.2⟩]
        · rw [if_neg z, if_neg (fun q => z ⟨sw_inj.mp q.1, q.2⟩)]
      · refine lex_trans (Or.inr ⟨k, by omega, ?_, fun j hj => hpre j hj⟩) c5
        show sw u w (c k) < c k
        rw [hk2]; omega
theorem sol_of_can {n lanes : Nat} {room : Int} {len out : Nat → Int32} {few : Int32} {B B' : Nat → Int32} (hn : n ≤ 9) (h : Res n out (fun b => sh_ok n lanes b ∧ sh_fit n lanes room len b ∧ can n b) 81 B few.toInt B') : sh_sol n lanes room len out few B' := by
  rcases h with ⟨h1, h2, h3⟩ | ⟨a, ⟨a1, a2, a3⟩, h2, h3, h4, h5⟩
  · refine Or.inl ⟨(fa_eq _ _).mpr h1, fun a ha hf => ?_⟩
    obtain ⟨c, c1, c2, c3, c4, c5⟩ := can_ex (out := out) ha hf n (Nat.le_refl n)
    have := h3 c ⟨c1, c2, c3⟩
    have := mv_rng out c hn
    omega
  · refine Or.inr ⟨a, a1, a2, h4, h3, fun b hb hf => ?_⟩
    obtain ⟨c, c1, c2, c3, c4, c5⟩ := can_ex (out := out) hb hf n (Nat.le_refl n)
    rcases h5 c ⟨c1, c2, c3⟩ with z | ⟨z1, z2⟩
    · exact Or.inl (by omega)
    · exact Or.inr ⟨by omega, lex_trans z2 c5⟩
theorem sol_of_all {n lanes : Nat} {room : Int} {len out : Nat → Int32} {few : Int32} {B B' : Nat → Int32} (hn : n ≤ 9) (h : Res n out (fun b => sh_ok n lanes b ∧ sh_fit n lanes room len b) 81 B few.toInt B') : sh_sol n lanes room len out few B' := by
  rcases h with ⟨h1, h2, h3⟩ | ⟨a, ⟨a1, a2⟩, h2, h3, h4, h5⟩
  · refine Or.inl ⟨(fa_eq _ _).mpr h1, fun a ha hf => ?_⟩
    have := h3 a ⟨ha, hf⟩
    have := mv_rng out a hn
    omega
  · exact Or.inr ⟨a, a1, a2, h4, h3, fun b hb hf => h5 b ⟨hb, hf⟩⟩
theorem sol_one {n lanes : Nat} {room : Int} {len out : Nat → Int32} {few few2 : Int32} {B B2 : Nat → Int32} (hn : n ≤ 9) (h : sh_sol n lanes room len out few B) (h2 : sh_sol n lanes room len out few2 B2) : (few = 81 ∧ few2 = 81) ∨ (few = few2 ∧ 0 ≤ few.toInt ∧ few.toInt ≤ 72 ∧ ∀ k, k < n → B k = B2 k) := by
  rcases h with ⟨p1, p2⟩ | ⟨a, p1, p2, p3, p4, p5⟩
  · rcases h2 with ⟨q1, q2⟩ | ⟨c, q1, q2, q3, q4, q5⟩
    · exact Or.inl ⟨p1, q1⟩
    · exact absurd q2 (p2 c q1)
  · rcases h2 with ⟨q1, q2⟩ | ⟨c, q1, q2, q3, q4, q5⟩
    · exact absurd p2 (q2 a p1)
    · have ra := mv_rng out a hn
      have e : sh_mv out a n = sh_mv out c n ∧ ∀ k, k < n → a k = c k := by
        rcases p5 c q1 q2 with z | ⟨z, z2⟩
        · rcases q5 a p1 p2 with w | ⟨w, w2⟩ <;> omega
        · rcases q5 a p1 p2 with w | ⟨w, w2⟩
          · omega
          · exact ⟨z, lex_anti z2 w2⟩
      refine Or.inr ⟨(fa_eq _ _).mpr (by omega), by omega, by omega, fun k hk => ?_⟩
      rw [p3 k hk, q3 k hk, e.2 k hk]
