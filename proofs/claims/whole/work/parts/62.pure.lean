theorem st_boat : St_boat Inv := by
  intro a1 a2 a3 a4 sx sm h
  obtain ⟨hL, hB, hO, hH, hS, hT, hK, hC, hW, hP, hR, hU⟩ := id h
  obtain ⟨o1, o2, o3, o4, o5, o6, o7⟩ := id hO
  have b4 := hB.2.2.2.1
  have b42 : (sm.1 1).toInt ≤ 10 := b4.2
  have o62 : (sm.1 2).toInt ≤ 30 := o6.2
  have hcn := cl_ti o6.1
  have hsb : (sm.1 1 - (1 : Int32)).toInt = (sm.1 1).toInt - 1 := sub1 (by have := b4.1; omega)
  unfold f_Hb_boat f_Md_boat
  simp only [wi_in]
  by_cases c1 : (10 : Int32).toInt ≤ a1.toInt ∧ a1.toInt ≤ (400 : Int32).toInt
  · rw [in_t c1, Option.bind_some, Option.bind_some, if10, if10]
    by_cases c2 : (0 : Int32).toInt ≤ a2.toInt ∧ a2.toInt ≤ (60 : Int32).toInt
    · rw [in_t c2, Option.bind_some, Option.bind_some, if10, if10]
      by_cases c3 : (1 : Int32).toInt ≤ a3.toInt ∧ a3.toInt ≤ (500 : Int32).toInt
      · rw [in_t c3, Option.bind_some, Option.bind_some, if10, if10]
        by_cases c4 : (-1 : Int32).toInt ≤ a4.toInt ∧ a4.toInt ≤ (sm.1 1 - (1 : Int32)).toInt
        · have c4' : -1 ≤ a4.toInt ∧ a4.toInt < (sm.1 1).toInt := ⟨c4.1, by have := c4.2; omega⟩
          rw [in_t c4, Option.bind_some, if10]
          by_cases c5 : sm.1 2 = (30 : Int32)
          · have n5 : ¬ sx.1 3 < (30 : Int32) := by rw [o1, c5]; decide
            rw [if_pos c5, if_neg n5]
            exact ⟨-1, _, _, rfl, rfl, h⟩
          · have hlt : (sm.1 2).toInt < 30 := by
              rw [fa_eq] at c5
              have c5 : ¬ (sm.1 2).toInt = 30 := c5
              omega
            have e1 : (sm.1 2 + (1 : Int32)).toInt = (sm.1 2).toInt + 1 := add1 (by omega)
            have n5 : sx.1 3 < (30 : Int32) := by rw [o1, fa_lt]; exact hlt
            have ha := badd_eq (s := sx) (by rw [o1]; exact o6.1) (by rw [o1]; exact hlt)
            have hm := bput_eq (s := sm) o6.1 hlt
            rw [if_neg c5, if_pos n5]
            by_cases c6 : a4 < 0
            · have c7 : a4 = -1 := by
                rw [fa_lt] at c6
                have c6 : a4.toInt < 0 := c6
                rw [fa_eq]
                show a4.toInt = -1
                omega
              rw [if_pos c6, if_pos c7, ha, hm, c7]
              refine ⟨sm.1 2, _, _, congrArg (fun z => some (z, _)) o1, rfl, inv_boat h hlt c1 c2 c3 ⟨by decide, by have := b4.1; show (-1 : Int) < _; omega⟩ rfl (fun _ _ => rfl) ?_⟩
              intro b hb
              show ((sx.2 6 b = -1 ∧ ∀ k : Nat, (k : Int) < (sm.1 2 + 1).toInt → (upd (sm.2 6) (sm.1 2).toNatClampNeg (-1) k).toInt ≠ b) ∨ ∃ k : Nat, (k : Int) < (sm.1 2 + 1).toInt ∧ sx.2 6 b = nI k ∧ (upd (sm.2 6) (sm.1 2).toNatClampNeg (-1) k).toInt = b ∧ ∀ j : Nat, (j : Int) < (sm.1 2 + 1).toInt → (upd (sm.2 6) (sm.1 2).toNatClampNeg (-1) j).toInt = b → j = k)
              have new : ∀ k : Nat, (k : Int) < (sm.1 2 + 1).toInt → (upd (sm.2 6) (sm.1 2).toNatClampNeg (-1) k).toInt = (b : Int) → (k : Int) < (sm.1 2).toInt ∧ (sm.2 6 k).toInt = b := by
                intro k hk q
                by_cases e : k = (sm.1 2).toNatClampNeg
                · rw [e, pk_us] at q
                  have q : (-1 : Int) = b := q
                  omega
                · rw [pk_un e] at q
                  exact ⟨by omega, q⟩
              rcases hH b hb with ⟨w1, w2⟩ | ⟨k, w1, w2, w3, w4⟩
              · exact Or.inl ⟨w1, fun k hk q => w2 k (new k hk q).1 (new k hk q).2⟩
              · refine Or.inr ⟨k, by omega, w2, ?_, fun j hj q => w4 j (new j hj q).1 (new j hj q).2⟩
                rw [pk_un (by omega)]
                exact w3
            · have c6' : 0 ≤ a4.toInt := by
                rw [fa_lt] at c6
                have c6 : ¬ a4.toInt < 0 := c6
                omega
              have c7 : ¬ a4 = -1 := by
                rw [fa_eq]
                show ¬ a4.toInt = -1
                omega
              have e4 := cnt_nI c6'
              have k4 := cl_ti c6'
              obtain ⟨p, f4⟩ : ∃ n, n = a4.toNatClampNeg := ⟨_, rfl⟩
              rw [← f4] at e4 k4
              have gx := xcan_says h (p := p) (by omega) a1 a2
              have gm := mcan_says hL hB hO hT (p := p) (by omega) a1 a2
              rw [← e4] at gx gm
              rw [if_neg c6, if_neg c7]
              by_cases c8 : ((∀ k : Nat, (k : Int) < (sm.1 2).toInt → ¬ sm.2 6 k = a4) ∧ (∀ s : Nat, (s : Int) < (sm.1 4).toInt → ¬ sm.2 11 s = a4) ∧ Fit sm a1 a2 p 0 400)
              · have hi : inb a4 10 = true := inb_iff.mpr ⟨c6', by show _ < (10 : Int); omega⟩
                rw [gx.1 c8, gm.1 c8, Option.bind_some, Option.bind_some, if10, if10, ha, hm, bd2_some, chk_t hi]
                refine ⟨sm.1 2, _, _, congrArg (fun z => some (z, _)) o1, rfl, inv_boat h hlt c1 c2 c3 c4' rfl (fun j hj => if_neg hj) ?_⟩
                intro b hb
                show ((upd (sx.2 6) a4.toNatClampNeg (sm.1 2) b = -1 ∧ ∀ k : Nat, (k : Int) < (sm.1 2 + 1).toInt → (upd (sm.2 6) (sm.1 2).toNatClampNeg a4 k).toInt ≠ b) ∨ ∃ k : Nat, (k : Int) < (sm.1 2 + 1).toInt ∧ upd (sx.2 6) a4.toNatClampNeg (sm.1 2) b = nI k ∧ (upd (sm.2 6) (sm.1 2).toNatClampNeg a4 k).toInt = b ∧ ∀ j : Nat, (j : Int) < (sm.1 2 + 1).toInt → (upd (sm.2 6) (sm.1 2).toNatClampNeg a4 j).toInt = b → j = k)
                rw [← f4]
                have none_p : ∀ k : Nat, (k : Int) < (sm.1 2).toInt → (sm.2 6 k).toInt ≠ p := fun k hk q => c8.1 k hk (by rw [fa_eq]; omega)
                by_cases eb : b = p
                · rw [eb, pk_us]
                  refine Or.inr ⟨(sm.1 2).toNatClampNeg, by omega, ?_, ?_, fun j hj q => ?_⟩
                  · exact cnt_nI o6.1
                  · rw [pk_us]
                    omega
                  · by_cases e : j = (sm.1 2).toNatClampNeg
                    · exact e
                    · rw [pk_un e] at q
                      exact absurd q (none_p j (by omega))
                · rw [pk_un eb]
                  have new : ∀ k : Nat, (k : Int) < (sm.1 2 + 1).toInt → (upd (sm.2 6) (sm.1 2).toNatClampNeg a4 k).toInt = (b : Int) → (k : Int) < (sm.1 2).toInt ∧ (sm.2 6 k).toInt = b := by
                    intro k hk q
                    by_cases e : k = (sm.1 2).toNatClampNeg
                    · rw [e, pk_us] at q
                      omega
                    · rw [pk_un e] at q
                      exact ⟨by omega, q⟩
                  rcases hH b hb with ⟨w1, w2⟩ | ⟨k, w1, w2, w3, w4⟩
                  · exact Or.inl ⟨w1, fun k hk q => w2 k (new k hk q).1 (new k hk q).2⟩
                  · refine Or.inr ⟨k, by omega, w2, ?_, fun j hj q => w4 j (new j hj q).1 (new j hj q).2⟩
                    rw [pk_un (by omega)]
                    exact w3
              · rw [gx.2 c8, gm.2 c8]
                exact ⟨-1, _, _, rfl, rfl, h⟩
        · rw [in_f c4]
          have c4' : ¬ (-1 ≤ a4.toInt ∧ a4.toInt < (sm.1 1).toInt) := fun q => c4 ⟨q.1, by have := q.2; omega⟩
          have c7 : ¬ a4 = -1 := by
            rw [fa_eq]
            show ¬ a4.toInt = -1
            have := b4.1
            omega
          by_cases n5 : sx.1 3 < (30 : Int32)
          · unfold f_Hb_canBeHome f_Berths_has
            rw [if_pos n5, if_neg c7, hB.1, has_f (a := a4) (z := sm.1 1) (fun q => c4' ⟨by have := q.1; omega, q.2⟩)]
            exact ⟨-1, _, _, rfl, rfl, h⟩
          · rw [if_neg n5]
            exact ⟨-1, _, _, rfl, rfl, h⟩
      · rw [in_f c3]
        exact ⟨-1, _, _, rfl, rfl, h⟩
    · rw [in_f c2]
      exact ⟨-1, _, _, rfl, rfl, h⟩
  · rw [in_f c1]
    exact ⟨-1, _, _, rfl, rfl, h⟩
