/-! Framing: a callee's world behind the rest. -/
theorem q_swapP {D : va_G} {cl : List vw_C} {a b : va_W} {H : Heap} (h : va_P D cl (a ++ b) H) : va_P D cl (b ++ a) H := by
  intro k q hk
  rcases Nat.lt_or_ge k b.length with hl | hl
  · rw [List.getElem?_append_left hl] at hk
    refine h (a.length + k) q ?_
    rw [List.getElem?_append_right (Nat.le_add_right _ _), Nat.add_sub_cancel_left]; exact hk
  · rw [List.getElem?_append_right hl] at hk
    have h2 : k - b.length < a.length := (List.getElem?_eq_some_iff.mp hk).1
    refine h (k - b.length) q ?_
    rw [List.getElem?_append_left h2]; exact hk
theorem q_swapD {A : Nat → Prop} {a b : va_W} (h : va_D A (a ++ b)) : va_D A (b ++ a) := by
  have mv : ∀ (k : Nat) (q : Nat × va_E), (b ++ a)[k]? = some q → ∃ j : Nat, (a ++ b)[j]? = some q ∧ ((k < b.length ∧ j = a.length + k) ∨ (b.length ≤ k ∧ j = k - b.length ∧ j < a.length)) := by
    intro k q hk
    rcases Nat.lt_or_ge k b.length with hl | hl
    · rw [List.getElem?_append_left hl] at hk
      exact ⟨a.length + k, by rw [List.getElem?_append_right (Nat.le_add_right _ _), Nat.add_sub_cancel_left]; exact hk, Or.inl ⟨hl, rfl⟩⟩
    · rw [List.getElem?_append_right hl] at hk
      have h2 : k - b.length < a.length := (List.getElem?_eq_some_iff.mp hk).1
      exact ⟨k - b.length, by rw [List.getElem?_append_left h2]; exact hk, Or.inr ⟨hl, rfl, h2⟩⟩
  refine ⟨fun i j p q hi hj hpq => ?_, fun k q hk => ?_⟩
  · obtain ⟨i', hi', ci⟩ := mv i p hi
    obtain ⟨j', hj', cj⟩ := mv j q hj
    have e := h.1 i' j' p q hi' hj' hpq
    rcases ci with ⟨c1, c2⟩ | ⟨c1, c2, c3⟩ <;> rcases cj with ⟨d1, d2⟩ | ⟨d1, d2, d3⟩ <;> omega
  · obtain ⟨j, hj, -⟩ := mv k q hk
    exact h.2 j q hj
theorem q_rightP {D : va_G} {cl : List vw_C} {a b : va_W} {H : Heap} (h : va_P D cl (a ++ b) H) : va_P D cl b H := fun k q hk => h (a.length + k) q (by rw [List.getElem?_append_right (Nat.le_add_right _ _), Nat.add_sub_cancel_left]; exact hk)
theorem q_rightD {A : Nat → Prop} {a b : va_W} (h : va_D A (a ++ b)) : va_D A b :=
  ⟨fun i j p q hi hj e => Nat.add_left_cancel (h.1 (a.length + i) (a.length + j) p q (by rw [List.getElem?_append_right (Nat.le_add_right _ _), Nat.add_sub_cancel_left]; exact hi) (by rw [List.getElem?_append_right (Nat.le_add_right _ _), Nat.add_sub_cancel_left]; exact hj) e),
   fun k q hk => h.2 (a.length + k) q (by rw [List.getElem?_append_right (Nat.le_add_right _ _), Nat.add_sub_cancel_left]; exact hk)⟩
theorem q_join {D : va_G} {cl : List vw_C} {A : Nat → Prop} {r w w1 : va_W} {H H1 : Heap} (hP : va_P D cl (r ++ w) H) (hD : va_D A (r ++ w)) (hk : ∀ q : Nat, q < H.size → ¬ va_A w H.size q → H1[q]? = H[q]?) (hF : ∀ q, va_A w H.size q → A q) (hP1 : va_P D cl w1 H1) (hD1 : va_D (va_A w H.size) w1) : va_P D cl (r ++ w1) H1 ∧ va_D A (r ++ w1) := by
  have hr : ∀ (k : Nat) (q : Nat × va_E), r[k]? = some q → (r ++ w)[k]? = some q ∧ k < r.length := fun k q hq => by
    have h2 : k < r.length := (List.getElem?_eq_some_iff.mp hq).1
    exact ⟨by rw [List.getElem?_append_left h2]; exact hq, h2⟩
  have hout : ∀ (k : Nat) (q : Nat × va_E), r[k]? = some q → q.1 < H.size ∧ ¬ va_A w H.size q.1 := fun k q hq => by
    obtain ⟨h1, h2⟩ := hr k q hq
    have hlt := (hP k q h1).lt
    refine ⟨hlt, fun hz => ?_⟩
    rcases hz with ⟨k', e, hk'⟩ | hz
    · have e1 := hD.1 k (r.length + k') q (q.1, e) h1 (by rw [List.getElem?_append_right (Nat.le_add_right _ _), Nat.add_sub_cancel_left]; exact hk') rfl
      omega
    · omega
  have sp : ∀ (k : Nat) (q : Nat × va_E), (r ++ w1)[k]? = some q → (k < r.length ∧ r[k]? = some q) ∨ (r.length ≤ k ∧ w1[k - r.length]? = some q) := fun k q hq => by
    rcases Nat.lt_or_ge k r.length with hl | hl
    · rw [List.getElem?_append_left hl] at hq; exact Or.inl ⟨hl, hq⟩
    · rw [List.getElem?_append_right hl] at hq; exact Or.inr ⟨hl, hq⟩
  refine ⟨fun k q hq => ?_, fun i j p q hi hj e => ?_, fun k q hq => ?_⟩
  · rcases sp k q hq with ⟨-, h1⟩ | ⟨-, h1⟩
    · obtain ⟨h2, h3⟩ := hout k q h1
      exact (hP k q (hr k q h1).1).kept (hk q.1 h2 h3)
    · exact hP1 _ q h1
  · rcases sp i p hi with ⟨c1, h1⟩ | ⟨c1, h1⟩ <;> rcases sp j q hj with ⟨d1, h2⟩ | ⟨d1, h2⟩
    · exact hD.1 i j p q (hr i p h1).1 (hr j q h2).1 e
    · have h3 := hD1.2 _ q h2
      rw [← e] at h3
      exact ((hout i p h1).2 h3).elim
    · have h3 := hD1.2 _ p h1
      rw [e] at h3
      exact ((hout j q h2).2 h3).elim
    · have := hD1.1 _ _ p q h1 h2 e
      omega
  · rcases sp k q hq with ⟨-, h1⟩ | ⟨-, h1⟩
    · exact hD.2 k q (hr k q h1).1
    · exact hF _ (hD1.2 _ q h1)
