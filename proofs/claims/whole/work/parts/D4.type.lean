/-! the code of a law, piece by piece: its shape -/
def q_ru (w : Nat) (U : Nat → List Bool) (e i : Nat) (o v : Int) : Prop :=
  (o = 400 ∧ 0 ≤ v ∧ v ≤ 9999 ∧ U (i + 1) = false :: U i)
  ∨ (o = 401 ∧ (∃ j : Nat, x_al w j ∧ j < 12 ∧ v = j) ∧ U (i + 1) = false :: U i)
  ∨ (o = 402 ∧ ∃ r, U i = false :: r ∧ U (i + 1) = false :: r)
  ∨ (o = 405 ∧ ∃ r, U i = true :: r ∧ U (i + 1) = true :: r)
  ∨ (o = 404 ∧ ∃ (r : List Bool) (j : Nat), U i = true :: r ∧ U (i + 1) = r ∧ v = j ∧ i < j ∧ j ≤ e ∧ U j = r)
  ∨ (o = 409 ∧ ∃ j : Nat, v = j ∧ i < j ∧ j ≤ e ∧ U j = U i)
  ∨ ((o = 43 ∨ o = 45 ∨ o = 42 ∨ o = 47 ∨ o = 403) ∧ ∃ r, U i = false :: false :: r ∧ U (i + 1) = false :: r)
  ∨ ((o = 60 ∨ o = 62 ∨ o = 61 ∨ o = 35 ∨ o = 300 ∨ o = 301) ∧ ∃ r, U i = false :: false :: r ∧ U (i + 1) = true :: r)
  ∨ ((o = 406 ∨ o = 407) ∧ ∃ r, U i = true :: true :: r ∧ U (i + 1) = true :: r)
theorem ru_m {w : Nat} {U U' : Nat → List Bool} {e e' i : Nat} {o v : Int} (r : List Bool) (h : q_ru w U e i o v) (hi : i < e) (hU : ∀ j, i ≤ j → j ≤ e → U' j = U j ++ r) (he : e ≤ e') : q_ru w U' e' i o v := by
  have a := hU i (Nat.le_refl _) (by omega)
  have b := hU (i + 1) (by omega) (by omega)
  rcases h with ⟨h1, h2, h3, h4⟩ | ⟨h1, h2, h3⟩ | ⟨h1, s, h2, h3⟩ | ⟨h1, s, h2, h3⟩ | ⟨h1, s, j, h2, h3, h4, h5, h6, h7⟩ | ⟨h1, j, h2, h3, h4, h5⟩ | ⟨h1, s, h2, h3⟩ | ⟨h1, s, h2, h3⟩ | ⟨h1, s, h2, h3⟩
  · exact Or.inl ⟨h1, h2, h3, by rw [b, a, h4]; rfl⟩
  · exact Or.inr (Or.inl ⟨h1, h2, by rw [b, a, h3]; rfl⟩)
  · exact Or.inr (Or.inr (Or.inl ⟨h1, s ++ r, by rw [a, h2]; rfl, by rw [b, h3]; rfl⟩))
  · exact Or.inr (Or.inr (Or.inr (Or.inl ⟨h1, s ++ r, by rw [a, h2]; rfl, by rw [b, h3]; rfl⟩)))
  · exact Or.inr (Or.inr (Or.inr (Or.inr (Or.inl ⟨h1, s ++ r, j, by rw [a, h2]; rfl, by rw [b, h3], h4, h5, by omega, by rw [hU j (by omega) h6, h7]⟩))))
  · exact Or.inr (Or.inr (Or.inr (Or.inr (Or.inr (Or.inl ⟨h1, j, h2, h3, by omega, by rw [hU j (by omega) h4, h5, a]⟩)))))
  · exact Or.inr (Or.inr (Or.inr (Or.inr (Or.inr (Or.inr (Or.inl ⟨h1, s ++ r, by rw [a, h2]; rfl, by rw [b, h3]; rfl⟩))))))
  · exact Or.inr (Or.inr (Or.inr (Or.inr (Or.inr (Or.inr (Or.inr (Or.inl ⟨h1, s ++ r, by rw [a, h2]; rfl, by rw [b, h3]; rfl⟩)))))))
  · exact Or.inr (Or.inr (Or.inr (Or.inr (Or.inr (Or.inr (Or.inr (Or.inr ⟨h1, s ++ r, by rw [a, h2]; rfl, by rw [b, h3]; rfl⟩)))))))
abbrev q_co : Type := List (Int × Int)
def q_ty (w k : Nat) (c : q_co) (b : Bool) (h : Nat) : Prop := ∃ U : Nat → List Bool, U k = [] ∧ U (k + c.length) = [b] ∧ (∀ i, k ≤ i → i ≤ k + c.length → (U i).length ≤ h) ∧ ∀ (i : Nat) (x : Int × Int), c[i]? = some x → q_ru w U (k + c.length) (k + i) x.1 x.2
theorem co_lt {c : q_co} {i : Nat} {x : Int × Int} (h : c[i]? = some x) : i < c.length := (List.getElem?_eq_some_iff.mp h).1
theorem ty_h {w k : Nat} {c : q_co} {b : Bool} {h h' : Nat} (t : q_ty w k c b h) (hh : h ≤ h') : q_ty w k c b h' := by
  obtain ⟨U, u1, u2, u3, u4⟩ := t
  exact ⟨U, u1, u2, fun i h1 h2 => Nat.le_trans (u3 i h1 h2) hh, u4⟩
theorem ty_num {w k : Nat} {v : Int} (hv : 0 ≤ v ∧ v ≤ 9999) : q_ty w k [(400, v)] false 1 := by
  refine ⟨fun i => if i = k then [] else [false], if_pos rfl, if_neg (by simp), fun i h1 h2 => ?_, fun i x hx => ?_⟩
  · show (if i = k then [] else [false]).length ≤ 1
    split <;> simp
  · have hi := co_lt hx
    have e : i = 0 := by simp at hi; omega
    subst e
    simp at hx
    subst hx
    exact Or.inl ⟨rfl, hv.1, hv.2, by simp⟩
theorem ty_name {w k j : Nat} (hj : x_al w j ∧ j < 12) : q_ty w k [(401, (j : Int))] false 1 := by
  refine ⟨fun i => if i = k then [] else [false], if_pos rfl, if_neg (by simp), fun i h1 h2 => ?_, fun i x hx => ?_⟩
  · show (if i = k then [] else [false]).length ≤ 1
    split <;> simp
  · have hi := co_lt hx
    have e : i = 0 := by simp at hi; omega
    subst e
    simp at hx
    subst hx
    exact Or.inr (Or.inl ⟨rfl, ⟨j, hj.1, hj.2, rfl⟩, by simp⟩)
/-- a step behind a piece -/
theorem ty_un {w k : Nat} {c : q_co} {b b' : Bool} {h : Nat} {o : Int} (t : q_ty w k c b h) (hh : 1 ≤ h) (ho : (o = 402 ∧ b = false ∧ b' = false) ∨ (o = 405 ∧ b = true ∧ b' = true)) : q_ty w k (c ++ [(o, 0)]) b' h := by
  obtain ⟨U, u1, u2, u3, u4⟩ := t
  refine ⟨fun i => if i ≤ k + c.length then U i else [b'], ?_, ?_, fun i h1 h2 => ?_, fun i x hx => ?_⟩
  · show (if k ≤ k + c.length then U k else [b']) = []
    rw [if_pos (by omega)]; exact u1
  · show (if k + (c ++ [(o, 0)]).length ≤ k + c.length then _ else [b']) = [b']
    rw [if_neg (by simp)]
  · show (if i ≤ k + c.length then U i else [b']).length ≤ h
    split
    · exact u3 i h1 (by assumption)
    · exact hh
  · have hi := co_lt hx
    rw [List.length_append] at hi
    simp only [List.length_cons, List.length_nil] at hi
    by_cases q : i < c.length
    · rw [List.getElem?_append_left q] at hx
      refine ru_m [] (u4 i x hx) (by omega) (fun j j1 j2 => ?_) (by simp)
      show (if j ≤ k + c.length then U j else [b']) = _
      rw [if_pos j2, List.append_nil]
    · have e : i = c.length := by omega
      subst e
      rw [List.getElem?_append_right (Nat.le_refl _), Nat.sub_self] at hx
      simp at hx
      subst hx
      have a : (fun i => if i ≤ k + c.length then U i else [b']) (k + c.length) = [b] := by
        show (if k + c.length ≤ k + c.length then U (k + c.length) else [b']) = [b]
        rw [if_pos (Nat.le_refl _), u2]
      have a' : (fun i => if i ≤ k + c.length then U i else [b']) (k + c.length + 1) = [b'] := by
        show (if k + c.length + 1 ≤ k + c.length then _ else [b']) = [b']
        rw [if_neg (by omega)]
      rcases ho with ⟨h1, h2, h3⟩ | ⟨h1, h2, h3⟩
      · subst h2; subst h3
        exact Or.inr (Or.inr (Or.inl ⟨h1, [], a, a'⟩))
      · subst h2; subst h3
        exact Or.inr (Or.inr (Or.inr (Or.inl ⟨h1, [], a, a'⟩)))
/-- two pieces and the step that joins them -/
theorem ty_bin {w k : Nat} {c1 c2 : q_co} {b b' : Bool} {h1 h2 : Nat} {o : Int} (t1 : q_ty w k c1 b h1) (t2 : q_ty w (k + c1.length) c2 b h2) (ho : ((o = 43 ∨ o = 45 ∨ o = 42 ∨ o = 47 ∨ o = 403) ∧ b = false ∧ b' = false) ∨ ((o = 60 ∨ o = 62 ∨ o = 61 ∨ o = 35 ∨ o = 300 ∨ o = 301) ∧ b = false ∧ b' = true) ∨ ((o = 406 ∨ o = 407) ∧ b = true ∧ b' = true)) {h : Nat} (hh : h1 ≤ h ∧ h2 + 1 ≤ h) : q_ty w k (c1 ++ c2 ++ [(o, 0)]) b' h := by
  obtain ⟨U1, u1, u2, u3, u4⟩ := t1
  obtain ⟨U2, v1, v2, v3, v4⟩ := t2
  have len : (c1 ++ c2 ++ [(o, (0 : Int))]).length = c1.length + c2.length + 1 := by simp; omega
  refine ⟨fun i => if i < k + c1.length then U1 i else if i ≤ k + c1.length + c2.length then U2 i ++ [b] else [b'], ?_, ?_, fun i g1 g2 => ?_, fun i x hx => ?_⟩
  · show (if k < k + c1.length then U1 k else if k ≤ k + c1.length + c2.length then U2 k ++ [b] else [b']) = []
    by_cases q : k < k + c1.length
    · rw [if_pos q]; exact u1
    · exfalso
      have : c1.length = 0 := by omega
      rw [this, Nat.add_zero, u1] at u2
      cases u2
  · show (if k + (c1 ++ c2 ++ [(o, 0)]).length < k + c1.length then _ else if k + (c1 ++ c2 ++ [(o, 0)]).length ≤ k + c1.length + c2.length then _ else [b']) = [b']
    rw [len, if_neg (by omega), if_neg (by omega)]
  · show (if i < k + c1.length then U1 i else if i ≤ k + c1.length + c2.length then U2 i ++ [b] else [b']).length ≤ h
    split
    · have := u3 i g1 (by omega); omega
    · split
      · have := v3 i (by omega) (by omega)
        simp; omega
      · simp; omega
  · have hi := co_lt hx
    rw [len] at hi ⊢
    by_cases q1 : i < c1.length
    · rw [List.append_assoc, List.getElem?_append_left q1] at hx
      refine ru_m [] (u4 i x hx) (by omega) (fun j j1 j2 => ?_) (by omega)
      show (if j < k + c1.length then U1 j else if j ≤ k + c1.length + c2.length then U2 j ++ [b] else [b']) = _
      rw [List.append_nil]
      by_cases q : j < k + c1.length
      · rw [if_pos q]
      · have e : j = k + c1.length := by omega
        rw [if_neg q, if_pos (by omega), e, v1, u2]; rfl
    · by_cases q2 : i < c1.length + c2.length
      · rw [List.append_assoc, List.getElem?_append_right (by omega), List.getElem?_append_left (by omega)] at hx
        have := ru_m (U' := fun i => if i < k + c1.length then U1 i else if i ≤ k + c1.length + c2.length then U2 i ++ [b] else [b']) (e' := k + (c1.length + c2.length + 1)) [b] (v4 (i - c1.length) x hx) (by omega) (fun j j1 j2 => by
          show (if j < k + c1.length then U1 j else if j ≤ k + c1.length + c2.length then U2 j ++ [b] else [b']) = _
          rw [if_neg (by omega), if_pos (by omega)]) (by omega)
        rw [show k + c1.length + (i - c1.length) = k + i by omega] at this
        exact this
      · have e : i = c1.length + c2.length := by omega
        subst e
        have hx' : (o, (0 : Int)) = x := by
          rw [List.getElem?_append_right (by simp)] at hx
          simp at hx
          exact hx
        subst hx'
        have a : (fun i => if i < k + c1.length then U1 i else if i ≤ k + c1.length + c2.length then U2 i ++ [b] else [b']) (k + (c1.length + c2.length)) = [b, b] := by
          show (if k + (c1.length + c2.length) < k + c1.length then _ else if k + (c1.length + c2.length) ≤ k + c1.length + c2.length then U2 (k + (c1.length + c2.length)) ++ [b] else [b']) = [b, b]
          rw [if_neg (by omega), if_pos (by omega), ← Nat.add_assoc, v2]; rfl
        have a' : (fun i => if i < k + c1.length then U1 i else if i ≤ k + c1.length + c2.length then U2 i ++ [b] else [b']) (k + (c1.length + c2.length) + 1) = [b'] := by
          show (if k + (c1.length + c2.length) + 1 < k + c1.length then _ else if k + (c1.length + c2.length) + 1 ≤ k + c1.length + c2.length then _ else [b']) = [b']
          rw [if_neg (by omega), if_neg (by omega)]
        rcases ho with ⟨g1, g2, g3⟩ | ⟨g1, g2, g3⟩ | ⟨g1, g2, g3⟩ <;> subst g2 <;> subst g3
        · exact Or.inr (Or.inr (Or.inr (Or.inr (Or.inr (Or.inr (Or.inl ⟨g1, [], a, a'⟩))))))
        · exact Or.inr (Or.inr (Or.inr (Or.inr (Or.inr (Or.inr (Or.inr (Or.inl ⟨g1, [], a, a'⟩)))))))
        · exact Or.inr (Or.inr (Or.inr (Or.inr (Or.inr (Or.inr (Or.inr (Or.inr ⟨g1, [], a, a'⟩)))))))
/-- if, then, else -/
theorem ty_if {w k : Nat} {c1 c2 c3 : q_co} {h : Nat} (t1 : q_ty w k c1 true h) (t2 : q_ty w (k + c1.length + 1) c2 false h) (t3 : q_ty w (k + c1.length + 1 + c2.length + 1) c3 false h) (hh : 1 ≤ h) : q_ty w k (c1 ++ [(404, ((k + c1.length + 1 + c2.length + 1 : Nat) : Int))] ++ c2 ++ [(409, ((k + c1.length + 1 + c2.length + 1 + c3.length : Nat) : Int))] ++ c3) false h := by
  obtain ⟨U1, u1, u2, u3, u4⟩ := t1
  obtain ⟨U2, v1, v2, v3, v4⟩ := t2
  obtain ⟨U3, w1, w2, w3, w4⟩ := t3
  obtain ⟨j1, hj1⟩ : ∃ j1, j1 = k + c1.length + 1 + c2.length + 1 := ⟨_, rfl⟩
  rw [← hj1]
  rw [← hj1] at w1 w2 w3 w4
  obtain ⟨j2, hj2⟩ : ∃ j2, j2 = j1 + c3.length := ⟨_, rfl⟩
  rw [← hj2]
  have hj2' : j2 = j1 + c3.length := hj2
  rw [← hj2'] at w2 w3 w4
  have len : (c1 ++ [(404, (j1 : Int))] ++ c2 ++ [(409, (j2 : Int))] ++ c3).length = c1.length + 1 + c2.length + 1 + c3.length := by simp; omega
  let U : Nat → List Bool := fun i => if i ≤ k + c1.length then U1 i else if i < j1 then U2 i else U3 i
  have UA : ∀ i, i ≤ k + c1.length → U i = U1 i := fun i hi => if_pos hi
  have UB : ∀ i, k + c1.length < i → i < j1 → U i = U2 i := fun i h1 h2 => by show (if i ≤ k + c1.length then U1 i else if i < j1 then U2 i else U3 i) = _; rw [if_neg (by omega), if_pos h2]
  have UC : ∀ i, j1 ≤ i → U i = U3 i := fun i h1 => by show (if i ≤ k + c1.length then U1 i else if i < j1 then U2 i else U3 i) = _; rw [if_neg (by omega), if_neg (by omega)]
  refine ⟨U, by rw [UA k (by omega)]; exact u1, by rw [len, show k + (c1.length + 1 + c2.length + 1 + c3.length) = j2 by omega, UC j2 (by omega)]; exact w2, fun i g1 g2 => ?_, fun i x hx => ?_⟩
  · rw [len] at g2
    by_cases q1 : i ≤ k + c1.length
    · rw [UA i q1]; exact u3 i g1 q1
    · by_cases q2 : i < j1
      · rw [UB i (by omega) q2]; exact v3 i (by omega) (by omega)
      · rw [UC i (by omega)]; exact w3 i (by omega) (by omega)
  · have hi := co_lt hx
    rw [len] at hi ⊢
    by_cases q1 : i < c1.length
    · rw [List.append_assoc, List.append_assoc, List.append_assoc, List.getElem?_append_left q1] at hx
      exact ru_m [] (u4 i x hx) (by omega) (fun j g1 g2 => by rw [UA j g2, List.append_nil]) (by omega)
    · by_cases q2 : i = c1.length
      · subst q2
        have hx' : (404, (j1 : Int)) = x := by
          rw [List.append_assoc, List.append_assoc, List.append_assoc, List.getElem?_append_right (by omega), Nat.sub_self] at hx
          simpa using hx
        subst hx'
        refine Or.inr (Or.inr (Or.inr (Or.inr (Or.inl ⟨rfl, [], j1, ?_, ?_, rfl, by omega, by omega, ?_⟩))))
        · rw [UA _ (by omega), u2]
        · rw [UB _ (by omega) (by omega)]; exact v1
        · rw [UC j1 (by omega)]; exact w1
      · by_cases q3 : i < c1.length + 1 + c2.length
        · have hx' : c2[i - (c1.length + 1)]? = some x := by
            rw [List.append_assoc, List.append_assoc, List.append_assoc, List.getElem?_append_right (by omega), List.getElem?_append_right (by simp; omega), List.getElem?_append_left (by simp; omega)] at hx
            simpa [Nat.sub_sub] using hx
          have hru := v4 _ x hx'
          rw [show k + c1.length + 1 + (i - (c1.length + 1)) = k + i by omega] at hru
          refine ru_m [] hru (by omega) (fun j g1 g2 => ?_) (by omega)
          rw [UB j (by omega) (by omega), List.append_nil]
        · by_cases q4 : i = c1.length + 1 + c2.length
          · subst q4
            have hx' : (409, (j2 : Int)) = x := by
              rw [List.append_assoc, List.getElem?_append_right (by simp; omega)] at hx
              have e : c1.length + 1 + c2.length - (c1 ++ [(404, (j1 : Int))] ++ c2).length = 0 := by simp; omega
              rw [e] at hx
              simpa using hx
            subst hx'
            refine Or.inr (Or.inr (Or.inr (Or.inr (Or.inr (Or.inl ⟨rfl, j2, rfl, by omega, by omega, ?_⟩)))))
            rw [UC j2 (by omega), UB _ (by omega) (by omega), w2, show k + (c1.length + 1 + c2.length) = k + c1.length + 1 + c2.length by omega, v2]
          · have hx' : c3[i - (c1.length + 1 + c2.length + 1)]? = some x := by
              rw [List.getElem?_append_right (by simp; omega)] at hx
              have e : i - (c1 ++ [(404, (j1 : Int))] ++ c2 ++ [(409, (j2 : Int))]).length = i - (c1.length + 1 + c2.length + 1) := by simp; omega
              rw [e] at hx
              exact hx
            have hru := w4 _ x hx'
            rw [show j1 + (i - (c1.length + 1 + c2.length + 1)) = k + i by omega] at hru
            refine ru_m [] hru (by omega) (fun j g1 g2 => ?_) (by omega)
            rw [UC j (by omega), List.append_nil]
