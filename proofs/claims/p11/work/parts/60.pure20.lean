/-! Pure part 20: operands: which ways suit. -/
theorem nI_eqi {a b : Nat} (ha : a < 2 ^ 31) (hb : b < 2 ^ 31) : nI a = nI b ↔ a = b := by
  refine ⟨fun h => ?_, fun h => by rw [h]⟩
  have := congrArg Int32.toInt h
  rw [nI_toInt ha, nI_toInt hb] at this
  omega
theorem nI_lti {a b : Nat} (ha : a < 2 ^ 31) (hb : b < 2 ^ 31) : nI a < nI b ↔ a < b := by
  rw [Int32.lt_iff_toInt_lt, nI_toInt ha, nI_toInt hb]; omega
/-- the next byte -/
theorem RR_nextb {p : Int32 × Int32} {S T : qS} (h : RR p S T) (hf : S.1 7 = 0) : ∃ (j : Nat) (v : Int32) (S' T' : qS), j < 256 ∧ fCo_fetch S 1 = some (v, S') ∧ fM_next T = some (nI j, T') ∧ RR p S' T' ∧ (S'.1 7 = 0 → v = nI j) ∧ (¬ S'.1 7 = 0 → v = 0) ∧ KC S S' ∧ KM T T' := by
  obtain ⟨v, v', S', T', h1, h2, h3, h4, h5, h6⟩ := RR_next h
  have e15 : gA T 1 15 = cGet S 15 := by rw [mGet_15]; exact RR_get h i16_15 hf
  obtain ⟨T1, d1, -, -⟩ := mR_st h hf (cGet S 15)
  obtain ⟨j, hj, ej⟩ := cBy_b S (cGet S 15)
  have hv' : v' = nI j := by
    unfold fM_next at h2
    rw [e15, bnd_e d1] at h2
    have := congrArg Prod.fst (Option.some.inj h2)
    exact this.symm.trans ej
  subst hv'
  refine ⟨j, v, S', T', hj, h1, h2, h3, fun q => (h4 q).symm, fun q => ?_, h5, h6⟩
  obtain ⟨y, c1, -, c3⟩ := cR_st hf (cGet S 15) 299 (cGet S 15) 1 0 0 (Int32.add_zero _) (by decide)
  have hr : fCo_read S (cGet S 15) 1 = some (y, cSt S (cGet S 15)) := by
    unfold fCo_read
    rw [c1, fCo_read_5, if_pos (by decide)]
    rfl
  unfold fCo_fetch at h1
  rw [bnd_e (fCo_get_eq S 15)] at h1
  dsimp only at h1
  rw [bnd_e hr] at h1
  dsimp only at h1
  rw [bnd_e (fCo_get_eq _ 15)] at h1
  dsimp only at h1
  rw [bnd_e (fCo_put_eq _ 15 _)] at h1
  have e1 := congrArg Prod.fst (Option.some.inj h1)
  have e2 := congrArg Prod.snd (Option.some.inj h1)
  dsimp only at e1 e2
  rw [← e2, cPut_f] at q
  rw [← e1]
  exact c3 q
/-- the two halves of a byte -/
theorem half {j : Nat} (hj : j < 256) : ushr (nI j) 4 = nI (j / 16) ∧ (nI j) >>> ((4 : Int32) &&& 31) = nI (j / 16) ∧ nI j &&& 15 = nI (j % 16) := by
  have h : ∀ j : Nat, j < 256 → ushr (nI j) 4 = nI (j / 16) ∧ (nI j) >>> ((4 : Int32) &&& 31) = nI (j / 16) ∧ nI j &&& 15 = nI (j % 16) := by decide +kernel
  exact h j hj
theorem noWay_eq (S : qS) {md : Nat} (h : md < 16) : fSp_isNoWay S (nI md) = some (if md = 12 ∨ md = 13 then 1 else 0, S) := by
  unfold fSp_isNoWay
  have c11 : nI md ≤ 11 ↔ md ≤ 11 := nI_lei (b := 11) (by omega) (by omega)
  have c14 : 14 ≤ nI md ↔ 14 ≤ md := nI_lei (a := 14) (by omega) (by omega)
  by_cases q : md ≤ 11
  · rw [if_pos (c11.mpr q), if_neg (by omega)]; rfl
  · rw [if_neg (fun w => q (c11.mp w))]
    by_cases r : 14 ≤ md
    · rw [if_pos (c14.mpr r), if_neg (by omega)]; rfl
    · rw [if_neg (fun w => r (c14.mp w)), if_pos (by omega)]; rfl
theorem kd_a {c x3 z : Int32} (h : kd c x3 z) (S : qS) : fSp_isAddress S c = some (if x3 = 4 then 1 else 0, S) := by
  rcases h with ⟨rfl, rfl, rfl⟩ | ⟨rfl, rfl, rfl⟩ | ⟨rfl, rfl, rfl⟩ | ⟨rfl, rfl, rfl⟩ | ⟨rfl, rfl, rfl⟩ | ⟨rfl, rfl, rfl⟩ | ⟨rfl, rfl, rfl⟩ <;> rfl
theorem kd_1 {c x3 z : Int32} (h : kd c x3 z) : (c = 114 ∨ c = 82) ↔ x3 = 1 := by
  rcases h with ⟨rfl, rfl, rfl⟩ | ⟨rfl, rfl, rfl⟩ | ⟨rfl, rfl, rfl⟩ | ⟨rfl, rfl, rfl⟩ | ⟨rfl, rfl, rfl⟩ | ⟨rfl, rfl, rfl⟩ | ⟨rfl, rfl, rfl⟩ <;> decide
theorem kd_4 {c x3 z : Int32} (h : kd c x3 z) : x3 = 1 ∨ x3 = 2 ∨ x3 = 3 ∨ x3 = 4 := by
  rcases h with ⟨rfl, rfl, rfl⟩ | ⟨rfl, rfl, rfl⟩ | ⟨rfl, rfl, rfl⟩ | ⟨rfl, rfl, rfl⟩ | ⟨rfl, rfl, rfl⟩ | ⟨rfl, rfl, rfl⟩ | ⟨rfl, rfl, rfl⟩ <;> decide
/-- what the document refuses -/
def bad (md n : Nat) (x3 : Int32) : Prop := (md < 4 ∧ ¬ x3 = 1) ∨ (4 ≤ md ∧ md ≤ 7 ∧ n = 15) ∨ (md = 5 ∧ x3 = 4) ∨ (md = 8 ∧ n = 15 ∧ (x3 = 2 ∨ x3 = 3)) ∨ md = 12 ∨ md = 13
theorem suits_eq (S : qS) {md n : Nat} (h : md < 16) (hn : n < 16) {c x3 z : Int32} (hc : kd c x3 z) : ∃ r, fSp_suits S (nI md) (nI n) c = some (r, S) ∧ ((r = 0 ∧ bad md n x3) ∨ (r = 1 ∧ ¬ bad md n x3)) := by
  have c4 : 4 ≤ nI md ↔ 4 ≤ md := nI_lei (a := 4) (by omega) (by omega)
  have c7 : 7 < nI md ↔ 7 < md := nI_lti (a := 7) (by omega) (by omega)
  have c5 : nI md = 5 ↔ md = 5 := nI_eqi (b := 5) (by omega) (by omega)
  have c8 : nI md = 8 ↔ md = 8 := nI_eqi (b := 8) (by omega) (by omega)
  have c15 : nI n = 15 ↔ n = 15 := nI_eqi (b := 15) (by omega) (by omega)
  have h4 := kd_4 hc
  have h1 := kd_1 hc
  have s44 : 4 ≤ md → ¬ (md = 12 ∨ md = 13) → ¬ (md ≤ 7 ∧ n = 15) → ∃ r, fSp_suits_44 S (nI md) (nI n) c = some (r, S) ∧ ((r = 0 ∧ bad md n x3) ∨ (r = 1 ∧ ¬ bad md n x3)) := by
    intro g1 g2 g3
    have one : ¬ (md = 5 ∧ x3 = 4) → ¬ (md = 8 ∧ n = 15 ∧ (x3 = 2 ∨ x3 = 3)) → ∃ r, fSp_suits_93 S = some (r, S) ∧ ((r = 0 ∧ bad md n x3) ∨ (r = 1 ∧ ¬ bad md n x3)) := by
      intro w1 w2
      refine ⟨1, rfl, Or.inr ⟨rfl, fun w => ?_⟩⟩
      rcases w with w | w | w | w | w | w
      · omega
      · omega
      · exact w1 w
      · exact w2 w
      · omega
      · omega
    unfold fSp_suits_44
    by_cases q5 : md = 5
    · rw [if_neg (not_not_intro (c5.mpr q5)), bnd_e (kd_a hc S)]
      dsimp only
      by_cases q4 : x3 = 4
      · rw [if_pos q4, if_pos (by decide)]
        exact ⟨0, rfl, Or.inl ⟨rfl, Or.inr (Or.inr (Or.inl ⟨q5, q4⟩))⟩⟩
      · rw [if_neg q4, if_neg (by decide)]
        exact one (fun w => q4 w.2) (fun w => by omega)
    · rw [if_pos (fun w => q5 (c5.mp w))]
      by_cases q8 : md = 8
      · rw [if_neg (not_not_intro (c8.mpr q8))]
        by_cases q15 : n = 15
        · rw [if_neg (not_not_intro (c15.mpr q15))]
          by_cases qa : c = 114
          · rw [if_pos qa]
            have := h1.mp (Or.inl qa)
            exact one (fun w => q5 w.1) (fun w => by rcases w.2.2 with e | e <;> rw [this] at e <;> exact absurd e (by decide))
          · rw [if_neg qa]
            by_cases qb : c = 82
            · rw [if_pos qb]
              have := h1.mp (Or.inr qb)
              exact one (fun w => q5 w.1) (fun w => by rcases w.2.2 with e | e <;> rw [this] at e <;> exact absurd e (by decide))
            · rw [if_neg qb, bnd_e (kd_a hc S)]
              dsimp only
              have n1 : ¬ x3 = 1 := fun w => (h1.mpr w).elim qa qb
              by_cases q4 : x3 = 4
              · rw [if_pos q4, if_neg (by decide)]
                exact one (fun w => q5 w.1) (fun w => by rcases w.2.2 with e | e <;> rw [q4] at e <;> exact absurd e (by decide))
              · rw [if_neg q4, if_pos rfl]
                refine ⟨0, rfl, Or.inl ⟨rfl, Or.inr (Or.inr (Or.inr (Or.inl ⟨q8, q15, ?_⟩)))⟩⟩
                rcases h4 with w | w | w | w
                · exact absurd w n1
                · exact Or.inl w
                · exact Or.inr w
                · exact absurd w q4
        · rw [if_pos (fun w => q15 (c15.mp w))]
          exact one (fun w => q5 w.1) (fun w => q15 w.2.1)
      · rw [if_pos (fun w => q8 (c8.mp w))]
        exact one (fun w => q5 w.1) (fun w => q8 w.1)
  unfold fSp_suits
  by_cases q : 4 ≤ md
  · rw [if_pos (c4.mpr q), bnd_e (noWay_eq S h)]
    dsimp only
    by_cases q2 : md = 12 ∨ md = 13
    · rw [if_pos q2, if_pos (by decide)]
      exact ⟨0, rfl, Or.inl ⟨rfl, Or.inr (Or.inr (Or.inr (Or.inr q2)))⟩⟩
    · rw [if_neg q2, if_neg (by decide)]
      by_cases q7 : 7 < md
      · rw [if_pos (c7.mpr q7)]
        exact s44 q q2 (fun w => by omega)
      · rw [if_neg (fun w => q7 (c7.mp w))]
        by_cases q15 : n = 15
        · rw [if_neg (not_not_intro (c15.mpr q15))]
          exact ⟨0, rfl, Or.inl ⟨rfl, Or.inr (Or.inl ⟨q, by omega, q15⟩)⟩⟩
        · rw [if_pos (fun w => q15 (c15.mp w))]
          exact s44 q q2 (fun w => q15 w.2)
  · rw [if_neg (fun w => q (c4.mp w))]
    by_cases q1 : x3 = 1
    · have good : ¬ bad md n x3 := fun w => by
        rcases w with w | w | w | w | w | w
        · exact w.2 q1
        · omega
        · omega
        · omega
        · omega
        · omega
      rcases h1.mpr q1 with e | e
      · rw [if_pos e]; exact ⟨1, rfl, Or.inr ⟨rfl, good⟩⟩
      · rw [if_neg (by rw [e]; decide), if_neg (not_not_intro e)]; exact ⟨1, rfl, Or.inr ⟨rfl, good⟩⟩
    · rw [if_neg (fun w => q1 (h1.mp (Or.inl w))), if_pos (fun w => q1 (h1.mp (Or.inr w)))]
      exact ⟨0, rfl, Or.inl ⟨rfl, Or.inl ⟨by omega, q1⟩⟩⟩
/-- behind an index -/
def badx (md n : Nat) : Prop := md < 6 ∨ md = 12 ∨ md = 13 ∨ (md ≤ 8 ∧ n = 15)
theorem suitsx_eq (S : qS) {md n : Nat} (h : md < 16) (hn : n < 16) : ∃ r, fSp_suitsBehindIndexed S (nI md) (nI n) = some (r, S) ∧ ((r = 0 ∧ badx md n) ∨ (r = 1 ∧ ¬ badx md n)) := by
  have c6 : nI md < 6 ↔ md < 6 := nI_lti (b := 6) (by omega) (by omega)
  have c8 : 8 < nI md ↔ 8 < md := nI_lti (a := 8) (by omega) (by omega)
  have c15 : nI n = 15 ↔ n = 15 := nI_eqi (b := 15) (by omega) (by omega)
  unfold fSp_suitsBehindIndexed
  by_cases q : md < 6
  · rw [if_pos (c6.mpr q)]
    exact ⟨0, rfl, Or.inl ⟨rfl, Or.inl q⟩⟩
  · rw [if_neg (fun w => q (c6.mp w)), bnd_e (noWay_eq S h)]
    dsimp only
    by_cases q2 : md = 12 ∨ md = 13
    · rw [if_pos q2, if_pos (by decide)]
      exact ⟨0, rfl, Or.inl ⟨rfl, by unfold badx; omega⟩⟩
    · rw [if_neg q2, if_neg (by decide)]
      by_cases q8 : 8 < md
      · rw [if_pos (c8.mpr q8)]
        exact ⟨1, rfl, Or.inr ⟨rfl, by unfold badx; omega⟩⟩
      · rw [if_neg (fun w => q8 (c8.mp w))]
        by_cases q15 : n = 15
        · rw [if_pos (c15.mpr q15)]
          exact ⟨0, rfl, Or.inl ⟨rfl, by unfold badx; omega⟩⟩
        · rw [if_neg (fun w => q15 (c15.mp w))]
          exact ⟨1, rfl, Or.inr ⟨rfl, by unfold badx; omega⟩⟩
