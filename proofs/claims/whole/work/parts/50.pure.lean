-- ===== numbers =====
theorem fa_lt (a b : Int32) : a < b ↔ a.toInt < b.toInt := Int32.lt_iff_toInt_lt
theorem fa_le (a b : Int32) : a ≤ b ↔ a.toInt ≤ b.toInt := Int32.le_iff_toInt_le
theorem fa_eq (a b : Int32) : a = b ↔ a.toInt = b.toInt := Int32.toInt_inj.symm
theorem fb_rng (x : Int32) : -2147483648 ≤ x.toInt ∧ x.toInt < 2147483648 := by
  have h1 := Int32.le_toInt x
  have h2 := Int32.toInt_lt x
  omega
theorem fb_bmod {z : Int} (h1 : -2147483648 ≤ z) (h2 : z < 2147483648) : z.bmod (2 ^ 32) = z := by
  rw [Int.bmod_eq_of_le (by omega) (by omega)]
theorem fb_addI {x y : Int32} (h1 : -2147483648 ≤ x.toInt + y.toInt) (h2 : x.toInt + y.toInt < 2147483648) : (x + y).toInt = x.toInt + y.toInt := by
  rw [Int32.toInt_add, fb_bmod h1 h2]
theorem fb_subI {x y : Int32} (h1 : -2147483648 ≤ x.toInt - y.toInt) (h2 : x.toInt - y.toInt < 2147483648) : (x - y).toInt = x.toInt - y.toInt := by
  rw [Int32.toInt_sub, fb_bmod h1 h2]
theorem cl_ti {x : Int32} (h : 0 ≤ x.toInt) : (x.toNatClampNeg : Int) = x.toInt := by
  show ((x.toInt.toNat : Nat) : Int) = x.toInt
  omega
theorem inb_iff {i : Int32} {n : Nat} : inb i n = true ↔ 0 ≤ i.toInt ∧ i.toInt < (n : Int) := by
  unfold inb
  exact decide_eq_true_iff
theorem chk_t {β : Type} {b : Bool} {o : Option β} (h : b = true) : chk b o = o := if_pos h
theorem bnd_eq {α β : Type} (x : α) (k : α → Option β) : bnd x k = k x := rfl
theorem xit_some {S T : Type} (r : T) : (xit (some r) : Option (S ⊕ T)) = some (.inr r) := rfl
theorem bd2_some {β : Type} (r : Int32) (s : MS) (k : Int32 → MS → Option β) : bd2 (some (r, s)) k = k r s := rfl
theorem loop_inl {S R : Type} {f : S → Option (S ⊕ R)} {s s' : S} (h : f s = some (.inl s')) : loop f s = loop f s' := by rw [loop_eq, h]; rfl
theorem loop_inr {S R : Type} {f : S → Option (S ⊕ R)} {s : S} {r : R} (h : f s = some (.inr r)) : loop f s = some r := by rw [loop_eq, h]; rfl
/-- a loop that counts up, with a state: after k steps from i the state is g k -/
theorem loop_up {S R : Type} {f : S → Option (S ⊕ R)} (g : Nat → S) (N : Nat) (r : R) (hs : ∀ k, k < N → f (g k) = some (.inl (g (k + 1)))) (he : f (g N) = some (.inr r)) : loop f (g 0) = some r := by
  have h : ∀ j, j ≤ N → loop f (g (N - j)) = some r := by
    intro j
    induction j with
    | zero => intro _; exact loop_inr he
    | succ j ih =>
      intro hj
      rw [loop_inl (hs (N - (j + 1)) (by omega)), show N - (j + 1) + 1 = N - j by omega]
      exact ih (by omega)
  have := h N (Nat.le_refl N)
  rwa [Nat.sub_self] at this
/-- the first hit from k on, n places looked at -/
def scan {R : Type} (g : Nat → Option R) (e : R) : Nat → Nat → R
  | 0, _ => e
  | n + 1, k => match g k with
    | some r => r
    | none => scan g e n (k + 1)
theorem scan_none {R : Type} {g : Nat → Option R} {e : R} : ∀ {n k : Nat}, (∀ j, k ≤ j → j < k + n → g j = none) → scan g e n k = e
  | 0, _, _ => rfl
  | n + 1, k, h => by
    show (match g k with | some r => r | none => scan g e n (k + 1)) = e
    rw [h k (Nat.le_refl k) (by omega)]
    exact scan_none (fun j h1 h2 => h j (by omega) (by omega))
theorem scan_hit {R : Type} {g : Nat → Option R} {e r : R} : ∀ {n k j : Nat}, k ≤ j → j < k + n → g j = some r → (∀ i, k ≤ i → i < j → g i = none) → scan g e n k = r
  | 0, k, j, h1, h2, _, _ => by omega
  | n + 1, k, j, h1, h2, h3, h4 => by
    show (match g k with | some r => r | none => scan g e n (k + 1)) = r
    by_cases hk : k = j
    · subst hk
      rw [h3]
    · rw [h4 k (Nat.le_refl k) (by omega)]
      exact scan_hit (by omega) (by omega) h3 (fun i a b => h4 i (by omega) b)
theorem scan_cong {R : Type} {g g2 : Nat → Option R} {e : R} : ∀ {n k : Nat}, (∀ j, k ≤ j → j < k + n → g j = g2 j) → scan g e n k = scan g2 e n k
  | 0, _, _ => rfl
  | n + 1, k, h => by
    show (match g k with | some r => r | none => scan g e n (k + 1)) = (match g2 k with | some r => r | none => scan g2 e n (k + 1))
    rw [h k (Nat.le_refl k) (by omega), scan_cong (fun j h1 h2 => h j (by omega) (by omega))]
theorem loop_scan {R : Type} {f : Int32 → Option (Int32 ⊕ R)} (g : Nat → Option R) (e : R) (N : Nat) (he : f (nI N) = some (.inr e)) (hs : ∀ k, k < N → f (nI k) = some (match g k with | some r => .inr r | none => .inl (nI (k + 1)))) : ∀ k, k ≤ N → loop f (nI k) = some (scan g e (N - k) k) := by
  intro k hk
  obtain ⟨n, rfl⟩ : ∃ n, N = k + n := ⟨N - k, by omega⟩
  rw [Nat.add_sub_cancel_left]
  clear hk
  induction n generalizing k with
  | zero => exact loop_inr he
  | succ n ih =>
    have h1 := hs k (by omega)
    cases hg : g k with
    | some r =>
      rw [hg] at h1
      rw [loop_inr h1]
      show some r = some (match g k with | some r => r | none => scan g e n (k + 1))
      rw [hg]
    | none =>
      rw [hg] at h1
      rw [loop_inl h1]
      have e1 : k + (n + 1) = (k + 1) + n := by omega
      rw [e1] at he hs
      rw [ih (k + 1) he hs]
      show _ = some (match g k with | some r => r | none => scan g e n (k + 1))
      rw [hg]
-- ===== the two ways to say 'within' =====
theorem in_t {v lo hi : Int32} (h : lo.toInt ≤ v.toInt ∧ v.toInt ≤ hi.toInt) : f_Md_isIn v lo hi = some 1 := by
  unfold f_Md_isIn
  rw [if_neg (by rw [fa_lt]; omega), if_neg (by rw [fa_lt]; omega)]
theorem in_f {v lo hi : Int32} (h : ¬ (lo.toInt ≤ v.toInt ∧ v.toInt ≤ hi.toInt)) : f_Md_isIn v lo hi = some 0 := by
  unfold f_Md_isIn
  by_cases c : v < lo
  · rw [if_pos c]
  · rw [if_neg c, if_pos (by rw [fa_lt] at c ⊢; omega)]
theorem wi_in (v lo hi : Int32) : f_Hb_isWithin v lo hi = f_Md_isIn v lo hi := rfl
theorem day_t {v : Int32} (h : 0 ≤ v.toInt ∧ v.toInt ≤ 399) : f_Hb_isDay v = some 1 := by
  unfold f_Hb_isDay
  rw [if_neg (by rw [fa_lt]; show ¬ v.toInt < 0; omega), if_neg (by rw [fa_le]; show ¬ (400 : Int) ≤ v.toInt; omega)]
theorem day_f {v : Int32} (h : ¬ (0 ≤ v.toInt ∧ v.toInt ≤ 399)) : f_Hb_isDay v = some 0 := by
  unfold f_Hb_isDay
  by_cases c : v < 0
  · rw [if_pos c]
  · rw [if_neg c, if_pos (by rw [fa_lt] at c; rw [fa_le]; have c : ¬ v.toInt < 0 := c; show (400 : Int) ≤ v.toInt; omega)]
theorem if10 {α : Type} {a b : α} : (if (1 : Int32) = 0 then a else b) = b := if_neg (by decide)
theorem if00 {α : Type} {a b : α} : (if (0 : Int32) = 0 then a else b) = a := if_pos rfl
-- ===== the invariant =====
/-- a number that is a count up to n -/
def cnt (z : Int32) (n : Nat) : Prop := 0 ≤ z.toInt ∧ z.toInt ≤ (n : Int)
def JL (x m : MS) : Prop := x.1 1 = m.1 0 ∧ x.2 3 = m.2 0 ∧ 1 ≤ (m.1 0).toInt ∧ (m.1 0).toInt ≤ 30 ∧ ∀ k, k < 30 → 0 ≤ (m.2 0 k).toInt ∧ (m.2 0 k).toInt ≤ 40
def JB (x m : MS) : Prop := x.1 2 = m.1 1 ∧ x.2 4 = m.2 1 ∧ x.2 5 = m.2 2 ∧ cnt (m.1 1) 10 ∧ ∀ k : Nat, (k : Int) < (m.1 1).toInt → 10 ≤ (m.2 1 k).toInt ∧ (m.2 1 k).toInt ≤ 400 ∧ 0 ≤ (m.2 2 k).toInt ∧ (m.2 2 k).toInt ≤ 60
def JO (x m : MS) : Prop := x.1 3 = m.1 2 ∧ x.2 7 = m.2 3 ∧ x.2 8 = m.2 4 ∧ x.2 9 = m.2 5 ∧ x.2 10 = m.2 6 ∧ cnt (m.1 2) 30 ∧ ∀ k : Nat, (k : Int) < (m.1 2).toInt → 10 ≤ (m.2 3 k).toInt ∧ (m.2 3 k).toInt ≤ 400 ∧ 0 ≤ (m.2 4 k).toInt ∧ (m.2 4 k).toInt ≤ 60 ∧ 1 ≤ (m.2 5 k).toInt ∧ (m.2 5 k).toInt ≤ 500 ∧ -1 ≤ (m.2 6 k).toInt ∧ (m.2 6 k).toInt < (m.1 1).toInt
/-- who holds a berth -/
def JH (x m : MS) : Prop := ∀ b : Nat, (b : Int) < (m.1 1).toInt → ((x.2 6 b = -1 ∧ ∀ k : Nat, (k : Int) < (m.1 2).toInt → (m.2 6 k).toInt ≠ b) ∨ ∃ k : Nat, (k : Int) < (m.1 2).toInt ∧ x.2 6 b = nI k ∧ (m.2 6 k).toInt = b ∧ ∀ j : Nat, (j : Int) < (m.1 2).toInt → (m.2 6 j).toInt = b → j = k)
/-- the spans: the same ones in some order; those of one boat share no night -/
def JS (x m : MS) : Prop := x.1 4 = m.1 3 ∧ cnt (m.1 3) 60 ∧ (∃ f : Nat → Nat, (∀ k : Nat, (k : Int) < (m.1 3).toInt → (f k : Int) < (m.1 3).toInt ∧ x.2 11 k = m.2 7 (f k) ∧ x.2 12 k = m.2 8 (f k) ∧ x.2 13 k = m.2 9 (f k)) ∧ ∀ i j : Nat, i < j → (j : Int) < (m.1 3).toInt → f i ≠ f j) ∧
  (∀ k : Nat, (k : Int) < (m.1 3).toInt → 0 ≤ (m.2 7 k).toInt ∧ (m.2 7 k).toInt < (m.1 2).toInt ∧ 0 ≤ (m.2 6 (m.2 7 k).toNatClampNeg).toInt ∧ 0 ≤ (m.2 8 k).toInt ∧ (m.2 8 k).toInt < (m.2 9 k).toInt ∧ (m.2 9 k).toInt ≤ 400) ∧
  ∀ i j : Nat, (i : Int) < (m.1 3).toInt → (j : Int) < (m.1 3).toInt → i ≠ j → m.2 7 i = m.2 7 j → (m.2 9 i).toInt ≤ (m.2 8 j).toInt ∨ (m.2 9 j).toInt ≤ (m.2 8 i).toInt
def JT (x m : MS) : Prop := x.1 5 = m.1 4 ∧ x.2 14 = m.2 10 ∧ x.2 15 = m.2 11 ∧ x.2 16 = m.2 12 ∧ x.2 17 = m.2 13 ∧ cnt (m.1 4) 40 ∧ ∀ k : Nat, (k : Int) < (m.1 4).toInt → 0 ≤ (m.2 10 k).toInt ∧ (m.2 10 k).toInt < (m.1 2).toInt ∧ (m.2 6 (m.2 10 k).toNatClampNeg).toInt = -1 ∧ 0 ≤ (m.2 11 k).toInt ∧ (m.2 11 k).toInt < (m.1 1).toInt ∧ 0 ≤ (m.2 12 k).toInt ∧ (m.2 12 k).toInt < (m.2 13 k).toInt ∧ (m.2 13 k).toInt ≤ 400
def JK (x m : MS) : Prop := x.1 0 = m.1 11 ∧ x.2 0 = m.2 17 ∧ x.2 1 = m.2 18 ∧ x.2 2 = m.2 19 ∧ cnt (m.1 11) 12
def JC (x m : MS) : Prop := x.1 11 = m.1 12 ∧ x.1 12 = m.1 13 ∧ x.1 13 = m.1 14 ∧ x.2 27 = m.2 20 ∧ x.1 10 = m.1 15 ∧ x.2 29 = m.2 22 ∧ x.2 30 = m.2 23 ∧ cnt (m.1 15) 40 ∧ (0 ≤ (m.1 12).toInt ∧ (m.1 12).toInt ≤ 40) ∧ (1 ≤ (m.1 13).toInt ∧ (m.1 13).toInt ≤ 500) ∧ (1 ≤ (m.1 14).toInt ∧ (m.1 14).toInt ≤ 600) ∧
  ∀ k : Nat, (k : Int) < (m.1 15).toInt → 0 ≤ (m.2 21 k).toInt ∧ (m.2 21 k).toInt < (m.1 2).toInt ∧ x.2 28 k = m.2 5 (m.2 21 k).toNatClampNeg ∧ 0 ≤ (m.2 22 k).toInt ∧ (m.2 22 k).toInt ≤ 399 ∧ 1 ≤ (m.2 23 k).toInt ∧ (m.2 23 k).toInt ≤ 600
def JP (x m : MS) : Prop := x.1 18 = m.1 19 ∧ x.2 37 = m.2 29 ∧ cnt (m.1 19) 200 ∧ ∀ k : Nat, 0 ≤ (m.2 29 k).toInt ∧ (m.2 29 k).toInt ≤ 255
def JR (x m : MS) : Prop := x.1 20 = m.1 26 ∧ x.1 21 = m.1 27
def si (f : Nat → Int) : Nat → Int
  | 0 => 0
  | n + 1 => si f n + f n
/-- a way to put n boats: into lanes; what a lane holds; the moves; the first by lanes -/
def sh_ok (n lanes : Nat) (a : Nat → Nat) : Prop := ∀ k, k < n → a k < lanes
def sh_use (len : Nat → Int32) (a : Nat → Nat) (l n : Nat) : Int := si (fun k => if a k = l then (len k).toInt else 0) n
def sh_fit (n lanes : Nat) (room : Int) (len : Nat → Int32) (a : Nat → Nat) : Prop := ∀ l, l < lanes → sh_use len a l n ≤ room
def sh_by (out : Nat → Int32) (a : Nat → Nat) (k : Nat) : Int := si (fun j => if a j = a k ∧ (out j).toInt < (out k).toInt then 1 else 0) k
def sh_mv (out : Nat → Int32) (a : Nat → Nat) (n : Nat) : Int := si (sh_by out a) n
def lex (n : Nat) (a b : Nat → Nat) : Prop := (∀ k, k < n → a k = b k) ∨ ∃ k, k < n ∧ a k < b k ∧ ∀ j, j < k → a j = b j
def sh_sol (n lanes : Nat) (room : Int) (len out : Nat → Int32) (few : Int32) (best : Nat → Int32) : Prop :=
  (few = 81 ∧ ∀ a, sh_ok n lanes a → ¬ sh_fit n lanes room len a) ∨
  ∃ a, sh_ok n lanes a ∧ sh_fit n lanes room len a ∧ (∀ k, k < n → best k = nI (a k)) ∧ few.toInt = sh_mv out a n ∧ ∀ b, sh_ok n lanes b → sh_fit n lanes room len b → sh_mv out a n < sh_mv out b n ∨ (sh_mv out a n = sh_mv out b n ∧ lex n a b)
def JW (x m : MS) : Prop := x.1 14 = m.1 18 ∧ x.1 16 = m.1 16 ∧ x.1 17 = m.1 17 ∧ x.2 32 = m.2 25 ∧ x.2 34 = m.2 26 ∧ cnt (m.1 18) 9 ∧ (1 ≤ (m.1 16).toInt ∧ (m.1 16).toInt ≤ 4) ∧ (10 ≤ (m.1 17).toInt ∧ (m.1 17).toInt ≤ 2000) ∧ (∀ l, l < 4 → x.2 36 l = 0) ∧
  (∀ k : Nat, (k : Int) < (m.1 18).toInt → 0 ≤ (m.2 25 k).toInt ∧ (m.2 25 k).toInt < (m.1 2).toInt ∧ x.2 33 k = m.2 3 (m.2 25 k).toNatClampNeg ∧ 0 ≤ (m.2 26 k).toInt ∧ (m.2 26 k).toInt ≤ 399) ∧
  sh_sol (m.1 18).toNatClampNeg (m.1 16).toNatClampNeg (m.1 17).toInt (x.2 33) (x.2 34) (x.1 15) (x.2 31)
/-- a sign of the reference, as the class has it -/
def tr (s v : Int32) : Int32 := if s = 1 then -102 else if s = 2 then -110 else if s = 3 then -100 else if s = 4 then v else if s = 10 then -43 else if s = 11 then -45 else if s = 12 then -42 else if s = 13 then -47 else if s = 14 then -37 else if s = 15 then -60 else if s = 16 then -61 else if s = 18 then -126 else -63
/-- how many a sign takes, and how the row grows by it -/
def tk (s : Int32) : Int := if s.toInt < 5 then 0 else if s = 18 then 1 else if s = 19 then 3 else 2
def gr (s : Int32) : Int := 1 - tk s
def sg_ok (s v : Int32) : Prop := (1 ≤ s.toInt ∧ s.toInt ≤ 4 ∧ (s = 4 → 0 ≤ v.toInt ∧ v.toInt ≤ 99999)) ∨ (10 ≤ s.toInt ∧ s.toInt ≤ 16) ∨ s = 18 ∨ s = 19
/-- a rule's signs from place p on, n of them: each finds what it takes, one is left -/
def cd_ok (sg vl : Nat → Int32) (p n : Nat) : Prop := (∀ i, i < n → sg_ok (sg (p + i)) (vl (p + i)) ∧ tk (sg (p + i)) ≤ si (fun j => gr (sg (p + j))) i) ∧ si (fun j => gr (sg (p + j))) n = 1
def JU (x m : MS) : Prop := x.1 28 = m.1 24 ∧ x.2 39 = m.2 30 ∧ cnt (m.1 24) 8 ∧ m.2 31 0 = 0 ∧
  ∀ r : Nat, (r : Int) < (m.1 24).toInt → ∃ p n : Nat, m.2 31 r = nI p ∧ m.2 31 (r + 1) = nI (p + n) ∧ p ≤ 60 * r ∧ 1 ≤ n ∧ n ≤ 60 ∧ x.2 40 r = nI n ∧ cd_ok (m.2 32) (m.2 33) p n ∧ ∀ i, i < n → x.2 41 (60 * r + i) = tr (m.2 32 (p + i)) (m.2 33 (p + i))
def Inv (x m : MS) : Prop := JL x m ∧ JB x m ∧ JO x m ∧ JH x m ∧ JS x m ∧ JT x m ∧ JK x m ∧ JC x m ∧ JW x m ∧ JP x m ∧ JR x m ∧ JU x m
theorem inv_0 : Inv ix im := by
  refine ⟨?_, ?_, ?_, ?_, ?_, ?_, ?_, ?_, ?_, ?_, ?_, ?_⟩
  · exact ⟨rfl, rfl, by decide, by decide, fun k _ => ⟨(by decide : (0 : Int) ≤ (0 : Int32).toInt), (by decide : (0 : Int32).toInt ≤ 40)⟩⟩
  · exact ⟨rfl, rfl, rfl, ⟨by decide, by decide⟩, fun k h => absurd h (by show ¬ (k : Int) < 0; omega)⟩
  · exact ⟨rfl, rfl, rfl, rfl, rfl, ⟨by decide, by decide⟩, fun k h => absurd h (by show ¬ (k : Int) < 0; omega)⟩
  · exact fun k h => absurd h (by show ¬ (k : Int) < 0; omega)
  · exact ⟨rfl, ⟨by decide, by decide⟩, ⟨id, fun k h => absurd h (by show ¬ (k : Int) < 0; omega), fun i j _ h => absurd h (by show ¬ (j : Int) < 0; omega)⟩, fun k h => absurd h (by show ¬ (k : Int) < 0; omega), fun i j h => absurd h (by show ¬ (i : Int) < 0; omega)⟩
  · exact ⟨rfl, rfl, rfl, rfl, rfl, ⟨by decide, by decide⟩, fun k h => absurd h (by show ¬ (k : Int) < 0; omega)⟩
  · exact ⟨rfl, rfl, rfl, rfl, ⟨by decide, by decide⟩⟩
  · exact ⟨rfl, rfl, rfl, rfl, rfl, rfl, rfl, ⟨by decide, by decide⟩, ⟨by decide, by decide⟩, ⟨by decide, by decide⟩, ⟨by decide, by decide⟩, fun k h => absurd h (by show ¬ (k : Int) < 0; omega)⟩
  · refine ⟨rfl, rfl, rfl, rfl, rfl, ⟨by decide, by decide⟩, ⟨by decide, by decide⟩, ⟨by decide, by decide⟩, fun _ _ => rfl, fun k h => absurd h (by show ¬ (k : Int) < 0; omega), ?_⟩
    refine Or.inr ⟨fun _ => 0, fun k h => absurd h (by show ¬ k < 0; omega), fun l _ => by show (0 : Int) ≤ 100; omega, fun k h => absurd h (by show ¬ k < 0; omega), rfl, fun b _ _ => Or.inr ⟨rfl, Or.inl (fun k h => absurd h (by show ¬ k < 0; omega))⟩⟩
  · exact ⟨rfl, rfl, ⟨by decide, by decide⟩, fun k => ⟨(by decide : (0 : Int) ≤ (0 : Int32).toInt), (by decide : (0 : Int32).toInt ≤ 255)⟩⟩
  · exact ⟨rfl, rfl⟩
  · exact ⟨rfl, rfl, ⟨by decide, by decide⟩, rfl, fun k h => absurd h (by show ¬ (k : Int) < 0; omega)⟩
-- ===== the plain calls =====
theorem st_about : St_about Inv := by
  intro a1 sx sm h
  obtain ⟨hL, hB, hO, hH, hS, hT, hK, hC, hW, hP, hR, hU⟩ := id h
  have e : f_Hb_about a1 sx = f_Md_about a1 sm := by
    unfold f_Hb_about f_Md_about
    rw [bnd_eq, bnd_eq, hB.1, hO.1, hT.1, hS.1, hC.2.2.2.2.1, hW.1, hU.1, hP.1, hK.1]
  have e2 : ∃ r, f_Md_about a1 sm = some r := by
    unfold f_Md_about
    rw [bnd_eq]
    repeat' (first | exact ⟨_, rfl⟩ | split)
  obtain ⟨r, hr⟩ := e2
  exact ⟨r, e.trans hr, hr, h⟩
theorem st_fault : St_fault Inv := by
  intro a1 sx sm h
  obtain ⟨hL, hB, hO, hH, hS, hT, hK, hC, hW, hP, hR, hU⟩ := id h
  have e : f_Hb_fault a1 sx = f_Md_fault a1 sm := by
    unfold f_Hb_fault f_Md_fault
    rw [bnd_eq, hR.1, hR.2]
  have e2 : ∃ r, f_Md_fault a1 sm = some r := by
    unfold f_Md_fault
    split
    · exact ⟨_, rfl⟩
    · split <;> exact ⟨_, rfl⟩
  obtain ⟨r, hr⟩ := e2
  exact ⟨r, e.trans hr, hr, h⟩
theorem st_hoist : St_hoist Inv := by
  intro a1 a2 a3 sx sm h
  obtain ⟨hL, hB, hO, hH, hS, hT, hK, hC, hW, hP, hR, hU⟩ := id h
  unfold f_Hb_hoist f_Hoist_set f_Md_hoist
  simp only [wi_in]
  by_cases c1 : (0 : Int32).toInt ≤ a1.toInt ∧ a1.toInt ≤ (40 : Int32).toInt
  · rw [in_t c1, Option.bind_some, Option.bind_some, if10, if10]
    by_cases c2 : (1 : Int32).toInt ≤ a2.toInt ∧ a2.toInt ≤ (500 : Int32).toInt
    · rw [in_t c2, Option.bind_some, Option.bind_some, if10, if10]
      by_cases c3 : (1 : Int32).toInt ≤ a3.toInt ∧ a3.toInt ≤ (600 : Int32).toInt
      · rw [in_t c3, Option.bind_some, Option.bind_some, if10, if10]
        refine ⟨1, _, _, rfl, rfl, hL, hB, hO, hH, hS, hT, hK, ⟨rfl, rfl, rfl, hC.2.2.2.1, hC.2.2.2.2.1, hC.2.2.2.2.2.1, hC.2.2.2.2.2.2.1, hC.2.2.2.2.2.2.2.1, c1, c2, c3, hC.2.2.2.2.2.2.2.2.2.2.2⟩, hW, hP, hR, hU⟩
      · rw [in_f c3]
        exact ⟨0, _, _, rfl, rfl, h⟩
    · rw [in_f c2]
      exact ⟨0, _, _, rfl, rfl, h⟩
  · rw [in_f c1]
    exact ⟨0, _, _, rfl, rfl, h⟩
theorem st_broken : St_broken Inv := by
  intro a1 a2 sx sm _ h
  obtain ⟨hL, hB, hO, hH, hS, hT, hK, hC, hW, hP, hR, hU⟩ := id h
  unfold f_Hb_broken f_Md_broken
  by_cases c1 : 0 ≤ a1.toInt ∧ a1.toInt ≤ 399
  · have hi : inb a1 400 = true := inb_iff.mpr ⟨c1.1, by show a1.toInt < 400; omega⟩
    rw [day_t c1, in_t (lo := 0) (hi := 399) c1, Option.bind_some, Option.bind_some, if10, if10, chk_t hi, chk_t hi]
    refine ⟨1, _, _, rfl, rfl, hL, hB, hO, hH, hS, hT, hK, ⟨hC.1, hC.2.1, hC.2.2.1, ?_, hC.2.2.2.2⟩, hW, hP, hR, hU⟩
    show upd (sx.2 27) _ _ = upd (sm.2 20) _ _
    rw [hC.2.2.2.1]
  · rw [day_f c1, in_f (lo := 0) (hi := 399) c1]
    exact ⟨0, _, _, rfl, rfl, h⟩
theorem st_end : St_end Inv := by
  intro a1 sx sm h
  obtain ⟨hL, hB, hO, hH, hS, hT, hK, hC, hW, hP, hR, hU⟩ := id h
  unfold f_Hb_end f_Md_end
  by_cases c1 : (0 : Int32).toInt ≤ a1.toInt ∧ a1.toInt ≤ (sm.1 19).toInt
  · have n1 : ¬ a1 < 0 := by rw [fa_lt]; omega
    have n2 : a1 ≤ sx.1 18 := by rw [fa_le, hP.1]; exact c1.2
    rw [in_t c1, if_neg n1, if_pos n2, Option.bind_some, if10]
    refine ⟨a1, _, _, rfl, rfl, hL, hB, hO, hH, hS, hT, hK, hC, hW, ⟨rfl, hP.2.1, ⟨c1.1, ?_⟩, hP.2.2.2⟩, hR, hU⟩
    have h1 := hP.2.2.1.2
    have h2 := c1.2
    show a1.toInt ≤ _
    omega
  · rw [in_f c1, Option.bind_some, if00]
    by_cases n1 : a1 < 0
    · rw [if_pos n1]
      exact ⟨-1, _, _, rfl, rfl, h⟩
    · rw [if_neg n1, if_neg (by rw [fa_le, hP.1]; rw [fa_lt] at n1; omega)]
      exact ⟨-1, _, _, rfl, rfl, h⟩
theorem st_shed : St_shed Inv := by
  intro a1 a2 sx sm h
  obtain ⟨hL, hB, hO, hH, hS, hT, hK, hC, hW, hP, hR, hU⟩ := id h
  unfold f_Hb_shed f_Shed_restart f_Md_shed
  simp only [wi_in]
  by_cases c1 : (1 : Int32).toInt ≤ a1.toInt ∧ a1.toInt ≤ (4 : Int32).toInt
  · rw [in_t c1, Option.bind_some, Option.bind_some, if10, if10]
    by_cases c2 : (10 : Int32).toInt ≤ a2.toInt ∧ a2.toInt ≤ (2000 : Int32).toInt
    · rw [in_t c2, Option.bind_some, Option.bind_some, if10, if10]
      refine ⟨1, _, _, rfl, rfl, hL, hB, hO, hH, hS, hT, hK, hC, ⟨rfl, rfl, rfl, hW.2.2.2.1, hW.2.2.2.2.1, ⟨(by decide : (0 : Int) ≤ (0 : Int32).toInt), (by decide : (0 : Int32).toInt ≤ ((9 : Nat) : Int))⟩, c1, c2, hW.2.2.2.2.2.2.2.2.1, fun k h => absurd h (by show ¬ (k : Int) < 0; omega), ?_⟩, hP, hR, hU⟩
      refine Or.inr ⟨fun _ => 0, fun k h => absurd h (by show ¬ k < 0; omega), fun l _ => by show (0 : Int) ≤ a2.toInt; have c2 : (10 : Int) ≤ a2.toInt := c2.1; omega, fun k h => absurd h (by show ¬ k < 0; omega), rfl, fun b _ _ => Or.inr ⟨rfl, Or.inl (fun k h => absurd h (by show ¬ k < 0; omega))⟩⟩
    · rw [in_f c2]
      exact ⟨0, _, _, rfl, rfl, h⟩
  · rw [in_f c1]
    exact ⟨0, _, _, rfl, rfl, h⟩
theorem st_moved : St_moved Inv := by
  intro a1 a2 sx sm h
  obtain ⟨hL, hB, hO, hH, hS, hT, hK, hC, hW, hP, hR, hU⟩ := id h
  have hk := hK.2.2.2.2
  have hs : (sm.1 11 - (1 : Int32)).toInt = (sm.1 11).toInt - 1 := fb_subI (by show _ ≤ _ - (1 : Int); have := hk.1; omega) (by show _ - (1 : Int) < _; have := hk.2; have := hk.1; omega)
  unfold f_Hb_moved f_Md_moved
  by_cases c1 : (0 : Int32).toInt ≤ a1.toInt ∧ a1.toInt ≤ (sm.1 11 - (1 : Int32)).toInt
  · have n1 : ¬ a1 < 0 := by rw [fa_lt]; omega
    have n2 : ¬ sx.1 0 ≤ a1 := by rw [fa_le, hK.1]; omega
    have hi : inb a1 12 = true := inb_iff.mpr ⟨c1.1, by have := hk.2; show a1.toInt < 12; omega⟩
    rw [in_t c1, if_neg n1, if_neg n2, Option.bind_some, if10, bnd_eq]
    simp only [chk_t hi, bnd_eq, hK.2.1, hK.2.2.1, hK.2.2.2.1]
    by_cases d0 : a2 = 0
    · subst d0
      exact ⟨_, rfl, rfl, h⟩
    · by_cases d1 : a2 = 1
      · subst d1
        exact ⟨_, rfl, rfl, h⟩
      · by_cases d2 : a2 = 2
        · subst d2
          exact ⟨_, rfl, rfl, h⟩
        · rw [if_neg d0, if_neg d1, if_neg d2, if_neg d0, if_neg d1, if_neg d2]
          by_cases e1 : a2 < 0
          · rw [if_pos e1]
            exact ⟨-1, rfl, rfl, h⟩
          · rw [if_neg e1, if_neg (by
              rw [fa_lt] at e1 ⊢
              rw [fa_eq] at d0 d1 d2
              have e1 : ¬ a2.toInt < 0 := e1
              have d0 : ¬ a2.toInt = 0 := d0
              have d1 : ¬ a2.toInt = 1 := d1
              have d2 : ¬ a2.toInt = 2 := d2
              show ¬ a2.toInt < 3
              omega)]
            exact ⟨-1, rfl, rfl, h⟩
  · rw [in_f c1, Option.bind_some, if00]
    by_cases n1 : a1 < 0
    · rw [if_pos n1]
      exact ⟨-1, rfl, rfl, h⟩
    · rw [if_neg n1, if_pos (by rw [fa_le, hK.1]; rw [fa_lt] at n1; omega)]
      exact ⟨-1, rfl, rfl, h⟩
