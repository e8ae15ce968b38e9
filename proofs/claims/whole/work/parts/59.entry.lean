theorem x_inst {t : Nat} {q : vw_C} (hc : vwCl[t]? = some q) : Cond.instantiable q.1 q.2.2 ∈ lw_tbl := by
  match t, hc with
  | 0, hc => cases hc; exact List.mem_of_getElem? (i := 475) (by decide +kernel)
  | 1, hc => cases hc; exact List.mem_of_getElem? (i := 220) (by decide +kernel)
  | 2, hc => cases hc; exact List.mem_of_getElem? (i := 424) (by decide +kernel)
  | 3, hc => cases hc; exact List.mem_of_getElem? (i := 145) (by decide +kernel)
  | 4, hc => cases hc; exact List.mem_of_getElem? (i := 401) (by decide +kernel)
  | 5, hc => cases hc; exact List.mem_of_getElem? (i := 151) (by decide +kernel)
  | 6, hc => cases hc; exact List.mem_of_getElem? (i := 372) (by decide +kernel)
  | 7, hc => cases hc; exact List.mem_of_getElem? (i := 281) (by decide +kernel)
  | 8, hc => cases hc; exact List.mem_of_getElem? (i := 346) (by decide +kernel)
  | 9, hc => cases hc; exact List.mem_of_getElem? (i := 302) (by decide +kernel)
  | 10, hc => cases hc; exact List.mem_of_getElem? (i := 437) (by decide +kernel)
  | 11, hc => cases hc; exact List.mem_of_getElem? (i := 137) (by decide +kernel)
  | 12, hc => cases hc; exact List.mem_of_getElem? (i := 1352) (by decide +kernel)
  | t + 13, hc => simp [vwCl] at hc
theorem x_nmin : ∀ q ∈ x_nm, Cond.methodLinkNest q.1 q.2.1 q.2.2.1 q.2.2.2 ∈ lw_tbl := by
  intro q hq
  simp only [x_nm, List.mem_cons, List.not_mem_nil, or_false] at hq
  rcases hq with rfl | rfl | rfl | rfl | rfl | rfl | rfl | rfl | rfl
  · exact List.mem_of_getElem? (i := 146) (by decide +kernel)
  · exact List.mem_of_getElem? (i := 152) (by decide +kernel)
  · exact List.mem_of_getElem? (i := 221) (by decide +kernel)
  · exact List.mem_of_getElem? (i := 288) (by decide +kernel)
  · exact List.mem_of_getElem? (i := 303) (by decide +kernel)
  · exact List.mem_of_getElem? (i := 347) (by decide +kernel)
  · exact List.mem_of_getElem? (i := 378) (by decide +kernel)
  · exact List.mem_of_getElem? (i := 689) (by decide +kernel)
  · exact List.mem_of_getElem? (i := 754) (by decide +kernel)
theorem x_fnin : Cond.fieldLinkNest "NoonOnABarrow$Reader" 115 "NoonOnABarrow" "NAMED_IN" "[I" "NoonOnABarrow" ∈ lw_tbl := List.mem_of_getElem? (i := 1028) (by decide +kernel)
theorem x_sr59 : Cond.stringRef "NoonOnABarrow$Tape" 59 x_wordsS ∈ lw_tbl := List.mem_of_getElem? (i := 823) (by decide +kernel)
theorem x_sr75 : Cond.stringRef "NoonOnABarrow$Tape" 75 x_signsS ∈ lw_tbl := List.mem_of_getElem? (i := 888) (by decide +kernel)
theorem x_lsN : Cond.laysStatic "NoonOnABarrow" "NAMED_IN" "[I" ∈ lw_tbl ∧ Cond.initialized "NoonOnABarrow" ∈ lw_tbl := ⟨(List.mem_of_getElem? (i := 1029) (by decide +kernel)), (List.mem_of_getElem? (i := 115) (by decide +kernel))⟩
theorem x_lsC : Cond.laysStatic "java/lang/String" "COMPACT_STRINGS" "Z" ∈ lw_tbl ∧ Cond.initialized "java/lang/String" ∈ lw_tbl := ⟨(List.mem_of_getElem? (i := 833) (by decide +kernel)), (List.mem_of_getElem? (i := 130) (by decide +kernel))⟩
theorem x_acI : Cond.arrayClass .int ∈ lw_tbl := (List.mem_of_getElem? (i := 176) (by decide +kernel))
theorem x_acB : Cond.arrayClass .byte ∈ lw_tbl := (List.mem_of_getElem? (i := 1042) (by decide +kernel))
theorem x_acJ : Cond.arrayClass .long ∈ lw_tbl := (List.mem_of_getElem? (i := 1503) (by decide +kernel))
theorem x_aoD : Cond.arrayOver (.object "NoonOnABarrow$Day") ∈ lw_tbl := (List.mem_of_getElem? (i := 287) (by decide +kernel))
theorem x_aoT : Cond.arrayOver (.object "NoonOnABarrow$Text") ∈ lw_tbl := (List.mem_of_getElem? (i := 301) (by decide +kernel))
theorem x_lsP : Cond.laysStatic "jdk/internal/util/Preconditions" "SIOOBE_FORMATTER" "Ljava/util/function/BiFunction;" ∈ lw_tbl ∧ Cond.initialized "jdk/internal/util/Preconditions" ∈ lw_tbl := ⟨(List.mem_of_getElem? (i := 849) (by decide +kernel)), (List.mem_of_getElem? (i := 132) (by decide +kernel))⟩
theorem x_arr {args : Array Value} {s : State} {ty : FieldType} (hty : ∀ C, ty ≠ .object C) (h : (Cond.arrayClass ty).before args s = true) : ∃ cA : ClassId, ArrOfT s cA ty ∧ va_RA s cA ty := by
  obtain ⟨c, k, comp, h1, h2, h3⟩ := Cond.arrayClass_spec h
  refine ⟨c, fun n z => ⟨fun k h => (by cases h), k, h2, comp, h3⟩, ?_⟩
  cases ty <;> first | exact h1 | exact absurd rfl (hty _)
theorem x_arrO {args : Array Value} {s : State} {C : String} (h : (Cond.arrayOver (.object C)).before args s = true) : ∃ cA : ClassId, ArrOfT s cA (.object C) ∧ va_RA s cA (.object C) := by
  obtain ⟨comp, c, k, h1, h2, h3, h4, h5⟩ := Cond.arrayOver_spec h
  exact ⟨c, fun n z => ⟨fun k h => (by cases h), k, h3, comp, h4⟩, k, comp, h3, h4, h1, h5⟩
set_option maxRecDepth 20000 in
set_option maxHeartbeats 4000000 in
/-- THE LAW OUT OF WHAT THE CALLS DO: J holds behind the constructors, and every call keeps it and answers alike -/
theorem whole_of {J : x_T → Prop} (hcp : x_CV 1999 mX12_copies [.ref 345, .int 1] x_tM J) (hst : ∀ τ, J τ → x_Steps J τ) {p : Program} {e : Env} {s : State} {m : MethodId} {below : List Frame} {meth : Method} {c : Code} (l : Launch) {b L : Nat} {xs : Nat → Int32} (hL : L ≤ 3072) (C0 : lw_At p s m meth c b L xs) : W p l e room_1 s m #[Value.ref b] below meth c s.heap [] 0 0 (lw_Z below #[Value.ref b] s) (entryFrame m ([Value.ref b] : List Value).toArray 4) := by
  obtain ⟨hx, hb, hr, hml, hown, hts, hX, hbl, hlocks, hgv⟩ := id C0
  have hfl : ∀ w ∈ x_fl, w.before #[Value.ref b] s = true := flat_of_before _ hgv
  have hf : ∀ {k : Nat} {w : Cond}, x_fl[k]? = some w → w.before #[Value.ref b] s = true := fun h => hfl _ (List.mem_of_getElem? h)
  have hkn : ∀ t : Nat, ∃ x : ClassId × (Nat → Nat), ∀ q, vwCl[t]? = some q → u_Kn s q.1 q.2.1 q.2.2 x.1 x.2 := by
    intro t
    cases hq : vwCl[t]? with
    | none => exact ⟨(0, fun _ => 0), fun q h => by cases h⟩
    | some q =>
      obtain ⟨cC, iS, h⟩ := u_known (C := q.1) (T := q.2.1) (N := q.2.2) (n := q.2.2) hts (fun w hw => (List.mem_filter.mp (x_inX (C := q.1) (T := q.2.1) (n := q.2.2) hq w hw)).1) (hts _ (x_inst hq))
      exact ⟨(cC, iS), fun q' h' => by cases h'; exact h⟩
  obtain ⟨dd, hdd⟩ := Classical.axiomOfChoice hkn
  obtain ⟨cI, hcI⟩ := x_arr (ty := .int) (fun _ h => by cases h) (hts _ x_acI)
  obtain ⟨cB, hcB⟩ := x_arr (ty := .byte) (fun _ h => by cases h) (hts _ x_acB)
  obtain ⟨cJ, hcJ⟩ := x_arr (ty := .long) (fun _ h => by cases h) (hts _ x_acJ)
  obtain ⟨cT, hcT⟩ := x_arrO (hts _ x_aoT)
  obtain ⟨cD, hcD⟩ := x_arrO (hts _ x_aoD)
  have hA : ∀ a : Nat, a < s.heap.size → ¬ (fun q : Nat => s.heap.size ≤ q) a := fun a h => Nat.not_le.mpr h
  obtain ⟨aN, eN, hTN⟩ := va_Tof (tm := x_tN) (ty := .int) (N := 32) (f := fun j => .int (x_named.getD j 0)) (by decide) (hf x_flE.1) (va_eqt (hf x_flE.2.1)) (fun j hj => va_eqt (hf (x_flN j hj))) hA
  obtain ⟨adK, adV, hSS, hSe⟩ := vk_Sof (args := #[Value.ref b]) (s := s) (N := 2) (tm := x_tS) (len := [160, 11]) (byt := [x_words, x_signs]) (fun i hi => by match i, hi with | 0, _ => decide | 1, _ => decide) (fun i hi => by match i, hi with | 0, _ => exact hf x_flT0.1 | 1, _ => exact hf x_flT1.1) (fun i hi => by match i, hi with | 0, _ => exact hf x_flT0.2.1 | 1, _ => exact hf x_flT1.2.1) (fun i hi => by match i, hi with | 0, _ => exact hf x_flT0.2.2.1 | 1, _ => exact hf x_flT1.2.2.1) (fun i hi => by match i, hi with | 0, _ => exact hf x_flT0.2.2.2 | 1, _ => exact hf x_flT1.2.2.2)
    (fun i hi j hj => by match i, hi, hj with | 0, _, hj => exact hfl _ (x_flW j hj) | 1, _, hj => exact hf (x_flS1 j hj)) (fun i j hi hj hne => by match i, j, hi, hj, hne with | 0, 1, _, _, _ => exact Or.inl (hf x_flD) | 1, 0, _, _, _ => exact Or.inr (hf x_flD) | 0, 0, _, _, h => exact absurd rfl h | 1, 1, _, _, h => exact absurd rfl h) hA
  obtain ⟨G, hG⟩ : ∃ G : x_G, G = ((fun t => (dd t).1, fun t => (dd t).2), (fun k => match k with | 0 => cI | 1 => cB | 2 => cJ | 3 => cT | _ => cD), s.heap.size, aN, adK, adV) := ⟨_, rfl⟩
  have hK : x_K G s := by
    subst hG
    refine ⟨⟨fun c q hq => hdd c q hq, fun k q hq => ?_⟩, va_Zref (hts _ x_lsN.1) (hts _ x_lsN.2) eN hA, hTN, va_Zof (hts _ x_lsC.1) (hts _ x_lsC.2) (va_eqt (hf x_flE.2.2)) hA, hSS, vk_R.of (hts _ x_sr59) (hSe 0 (by decide)), vk_R.of (hts _ x_sr75) (hSe 1 (by decide)), fun q hq => va_Nw.of rfl (hts _ (x_nmin q hq)), va_Nw.of rfl (hts _ x_fnin), va_AO.of (hts _ x_aoT), va_AO.of (hts _ x_aoD), va_Zqof (hts _ x_lsP.1) (hts _ x_lsP.2) (hf x_flP) hA⟩
    match k, hq with
    | 0, hq => cases hq; exact hcI
    | 1, hq => cases hq; exact hcB
    | 2, hq => cases hq; exact hcJ
    | 3, hq => cases hq; exact hcT
    | 4, hq => cases hq; exact hcD
    | k + 5, hq => simp [x_tys] at hq
  have hsz : s.heap.size = G.2.2.1 := by subst hG; rfl
  have hl := lv_entry ([.ref b]) (n := 4) (Nat.le_of_ble_eq_true rfl)
  rw [lg_entry_eq]
  generalize (lg_sl ([.ref b]) ++ List.replicate (4 - (lg_sl ([.ref b])).length) Slot.unset).toArray = ls at hl ⊢
  exact L_start hL hcp hst p l e s m below meth c b G ⟨C0, hK, hsz⟩ s.heap [] ls (fun k q h => by unfold x_ws at h; simp at h) va_S.rf hl
