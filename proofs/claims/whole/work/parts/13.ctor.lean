section XCT
variable {d : Nat} {μ : x_M} {N0 : Nat} {Q : x_S → Option Value → Prop} {N pc : Nat} {L L' : List (Nat × Value)} {st st' : List Value} {σ : x_S}
theorem x_el_nw {G : x_G} {c a : Nat} (h : a ≠ c) : x_el G (x_nw σ c) a = x_el G σ a := by
  have h1 : (x_nw σ c).1 a = σ.1 a := by funext b; simp [x_nw, h]
  have h2 : (x_nw σ c).2.1 a = σ.2.1 a := by funext b; simp [x_nw, h]
  have h3 : (x_nw σ c).2.2 a = σ.2.2 a := by funext b; simp [x_nw, h]
  have h4 : ∀ ty b, x_av ty (x_nw σ c) a b = x_av ty σ a b := by
    intro ty b
    unfold x_av
    split
    · rw [h1]
    · rw [h2]
    · rw [h3]
  unfold x_el
  simp only [h1, h2, h3, h4]
def x_okty (ty : FieldType) : Bool := match ty with
  | .int => true
  | .long => true
  | .array _ => true
  | .object _ => true
  | _ => false
theorem x_dflt {z c k : Nat} {ty : FieldType} (h : x_okty ty = true) : x_ad z (x_av ty (x_nw σ c) c k) = defaultValue ty := by
  cases ty <;> first | (simp [x_okty] at h; done) | (simp [x_av, x_nw, x_ad, x_rf, defaultValue])
theorem x_tyok {t : Nat} {C : String} {T : u_T} {n : Nat} (hc : vwCl[t]? = some (C, T, n)) : ∀ k, k < n → x_okty (x_ty t k) = true := by
  match t, hc with
  | 0, hc => cases hc; decide +kernel
  | 1, hc => cases hc; decide +kernel
  | 2, hc => cases hc; decide +kernel
  | 3, hc => cases hc; decide +kernel
  | 4, hc => cases hc; decide +kernel
  | 5, hc => cases hc; decide +kernel
  | 6, hc => cases hc; decide +kernel
  | 7, hc => cases hc; decide +kernel
  | 8, hc => cases hc; decide +kernel
  | 9, hc => cases hc; decide +kernel
  | 10, hc => cases hc; decide +kernel
  | 11, hc => cases hc; decide +kernel
  | 12, hc => cases hc; decide +kernel
  | t + 13, hc => simp [vwCl] at hc
/-- the new cell's address -/
theorem x_newat {l : Launch} {G : x_G} {p : Program} {e : Env} {R : Room} {s T : State} {m : MethodId} {args : Array Value} {below : List Frame} {meth : Method} {c : Code} {k q : Nat} {H1 : Heap} {locs : List Loc} {en : va_E} (X : x_Cx l G p e s m args meth c μ N0) (Y : Stand p l e R s m args below meth c T locs (N - N0 + 1) k) (hT : T.heap = H1) (h0 : N0 ≤ N)
    (hP : va_P G.1 vwCl (x_ws G N σ ++ [(q, en)]) H1) (hD : va_D (x_A G) (x_ws G N σ ++ [(q, en)])) : q = G.2.2.1 + N := by
  have h1 : T.heap.size ≤ s.heap.size + (N - N0 + 1) := Y.same.2.2.1
  have h2 : s.heap.size = G.2.2.1 + N0 := X.2.2.2.2.2.2.2.2.2
  rw [hT, h2] at h1
  have hlen : (x_ws G N σ).length = N := by unfold x_ws; rw [List.length_map, List.length_range]
  have hq : (x_ws G N σ ++ [(q, en)])[N]? = some (q, en) := by rw [List.getElem?_append_right (by omega), hlen, Nat.sub_self]; rfl
  have h3 := (hP N _ hq).lt
  have h3 : q < H1.size := h3
  have h4 : G.2.2.1 ≤ q := hD.2 N _ hq
  rcases Nat.lt_or_ge q (G.2.2.1 + N) with h5 | h5
  · exfalso
    have h6 : q - G.2.2.1 < N := by omega
    have h7 : (x_ws G N σ ++ [(q, en)])[q - G.2.2.1]? = some (G.2.2.1 + (q - G.2.2.1), x_el G σ (q - G.2.2.1)) := by rw [List.getElem?_append_left (by omega)]; exact x_ws_at h6
    have h8 := hD.1 _ _ _ _ h7 hq (by show G.2.2.1 + (q - G.2.2.1) = q; omega)
    omega
  · omega
set_option maxHeartbeats 4000000 in
theorem o_new {t n i : Nat} {C : String} {T : u_T} (hd : decode μ.2.1 pc = .ok (.new i, 3)) (hw : Cond.classLink μ.1.cls i C ∈ x_tb) (hi : Cond.instantiable C n ∈ x_tb) (hii : Cond.initialized C ∈ x_tb) (hs : x_sh N = (t, n)) (hc : vwCl[t]? = some (C, T, n)) (hb : N + 1 ≤ N0 + μ.2.2.2.2.1) (hbs : x_sl N + n ≤ x_sl N0 + μ.2.2.2.2.2)
    (h : x_Wg d μ N0 Q (N + 1) (pc + 3) L (.ref N :: st) (x_nw σ N)) : x_Wg d μ N0 Q N pc L st σ := by
  intro l G p e s m args below meth c X h0 h1 h2 H locs ls hW hS hl
  have hsl : x_sl (N + 1) = x_sl N + n := by show x_sl N + (x_sh N).2 = _; rw [hs]
  have hle := x_sl_le h0
  refine va_new (Ts := x_w μ) (ci := t) (fs := (List.range n).map (fun k => x_ad G.2.2.1 (x_av (x_ty t k) (x_nw σ N) N k))) X.1 X.2.1 X.2.2.2.2.2.2.2.1 (fun w h => List.mem_cons_of_mem _ (x_inX hc w h)) (x_ty t) (x_tyX hc) X.2.2.2.2.1 (x_word X hw) (x_word X hi) (x_word X hii) X.2.2.2.2.2.2.2.2.1.1 hW x_D hS (fun q hq => by show G.2.2.1 ≤ q; have := X.2.2.2.2.2.2.2.2.2; omega) hc ?_ (by show N - N0 + 1 ≤ μ.2.2.2.2.1; omega) (by show x_sl N - x_sl N0 + n ≤ μ.2.2.2.2.2; omega) hd ?_
  · intro j hj
    show _ = vp_V _ j
    unfold vp_V
    rw [List.getD_eq_getElem?_getD, List.getElem?_map, List.getElem?_range hj]
    exact (x_dflt (x_tyok hc j hj)).symm
  · intro q H1 hP1 hD1 hS1 T0 hT0 Y
    have hq := x_newat X Y hT0 h0 hP1 hD1
    subst hq
    rw [x_ws_new (σ' := x_nw σ N) (by rw [x_el_o hs (x_t13 hc)]) (fun a ha => x_el_nw (by omega))] at hP1
    have k := h l G p e s m args below meth c X (by omega) hb (by rw [hsl]; exact hbs) H1 locs ls hP1 hS1 hl
    rw [show N + 1 - N0 = N - N0 + 1 by omega, hsl, show x_sl N + n - x_sl N0 = x_sl N - x_sl N0 + n by omega] at k
    exact k T0 hT0 Y
theorem x_arrcls {ty : FieldType} {s : State} {cA cB : ClassId} (hty : ∀ C, ty ≠ .object C) (h1 : va_RA s cA ty) (h2 : va_RA s cB ty) : cA = cB := by
  cases ty <;> first | exact Option.some.inj (h1.symm.trans h2) | exact absurd rfl (hty _)
set_option maxHeartbeats 4000000 in
theorem o_newaI {n : Nat} {i : Int32} (hd : decode μ.2.1 pc = .ok (.newarray .int, 2)) (hw : Cond.arrayClass .int ∈ x_tb) (hs : x_sh N = (20, n)) (hn : ¬ i < 0) (hi : i.toNatClampNeg = n) (hsz : n ≤ 10000) (hb : N + 1 ≤ N0 + μ.2.2.2.2.1) (hbs : x_sl N + n ≤ x_sl N0 + μ.2.2.2.2.2)
    (h : x_Wg d μ N0 Q (N + 1) (pc + 2) L (.ref N :: st) (x_nw σ N)) : x_Wg d μ N0 Q N pc L (.int i :: st) σ := by
  intro l G p e s m args below meth c X h0 h1 h2 H locs ls hW hS hl
  have hsl : x_sl (N + 1) = x_sl N + n := by show x_sl N + (x_sh N).2 = _; rw [hs]
  have hle := x_sl_le h0
  have hby : n * componentBytes .int ≤ 536870912 := by
    have h8 : componentBytes .int ≤ 8 := by decide
    have := Nat.mul_le_mul hsz h8
    omega
  refine va_newa (atype := .int) (ty := .int) (a0 := (n, .inl (fun _ => 0))) (N' := n) X.1 X.2.1 (x_word X hw) rfl X.2.2.2.2.2.2.2.2.1.1 hW x_D hS (fun q hq => by show G.2.2.1 ≤ q; have := X.2.2.2.2.2.2.2.2.2; omega) (fun _ => rfl) hn hi hby (by show N - N0 + 1 ≤ μ.2.2.2.2.1; omega) (by show x_sl N - x_sl N0 + n ≤ μ.2.2.2.2.2; omega) hd ?_
  intro q cA H1 hK1 hP1 hD1 hS1 T0 hT0 Y
  have hq := x_newat X Y hT0 h0 hP1 hD1
  subst hq
  have hcA : cA = G.2.1 0 := x_arrcls (ty := .int) (fun _ => nofun) (hK1.2 5 _ rfl).2 (X.2.2.2.2.2.2.2.2.1.1.2 0 _ rfl).2
  subst hcA
  rw [x_ws_new (σ' := x_nw σ N) (by rw [x_el_i hs]; simp [x_nw]) (fun a ha => x_el_nw (by omega))] at hP1
  have k := h l G p e s m args below meth c X (by omega) hb (by rw [hsl]; exact hbs) H1 locs ls hP1 hS1 hl
  rw [show N + 1 - N0 = N - N0 + 1 by omega, hsl, show x_sl N + n - x_sl N0 = x_sl N - x_sl N0 + n by omega] at k
  exact k T0 hT0 Y
set_option maxHeartbeats 4000000 in
theorem o_newaB {n : Nat} {i : Int32} (hd : decode μ.2.1 pc = .ok (.newarray .byte, 2)) (hw : Cond.arrayClass .byte ∈ x_tb) (hs : x_sh N = (21, n)) (hn : ¬ i < 0) (hi : i.toNatClampNeg = n) (hsz : n ≤ 10000) (hb : N + 1 ≤ N0 + μ.2.2.2.2.1) (hbs : x_sl N + n ≤ x_sl N0 + μ.2.2.2.2.2)
    (h : x_Wg d μ N0 Q (N + 1) (pc + 2) L (.ref N :: st) (x_nw σ N)) : x_Wg d μ N0 Q N pc L (.int i :: st) σ := by
  intro l G p e s m args below meth c X h0 h1 h2 H locs ls hW hS hl
  have hsl : x_sl (N + 1) = x_sl N + n := by show x_sl N + (x_sh N).2 = _; rw [hs]
  have hle := x_sl_le h0
  have hby : n * componentBytes .byte ≤ 536870912 := by
    have h8 : componentBytes .byte ≤ 8 := by decide
    have := Nat.mul_le_mul hsz h8
    omega
  refine va_newa (atype := .byte) (ty := .byte) (a0 := (n, .inl (fun _ => 0))) (N' := n) X.1 X.2.1 (x_word X hw) rfl X.2.2.2.2.2.2.2.2.1.1 hW x_D hS (fun q hq => by show G.2.2.1 ≤ q; have := X.2.2.2.2.2.2.2.2.2; omega) (fun _ => rfl) hn hi hby (by show N - N0 + 1 ≤ μ.2.2.2.2.1; omega) (by show x_sl N - x_sl N0 + n ≤ μ.2.2.2.2.2; omega) hd ?_
  intro q cA H1 hK1 hP1 hD1 hS1 T0 hT0 Y
  have hq := x_newat X Y hT0 h0 hP1 hD1
  subst hq
  have hcA : cA = G.2.1 1 := x_arrcls (ty := .byte) (fun _ => nofun) (hK1.2 5 _ rfl).2 (X.2.2.2.2.2.2.2.2.1.1.2 1 _ rfl).2
  subst hcA
  rw [x_ws_new (σ' := x_nw σ N) (by rw [x_el_b hs]; simp [x_nw]) (fun a ha => x_el_nw (by omega))] at hP1
  have k := h l G p e s m args below meth c X (by omega) hb (by rw [hsl]; exact hbs) H1 locs ls hP1 hS1 hl
  rw [show N + 1 - N0 = N - N0 + 1 by omega, hsl, show x_sl N + n - x_sl N0 = x_sl N - x_sl N0 + n by omega] at k
  exact k T0 hT0 Y
set_option maxHeartbeats 4000000 in
theorem o_newaJ {n : Nat} {i : Int32} (hd : decode μ.2.1 pc = .ok (.newarray .long, 2)) (hw : Cond.arrayClass .long ∈ x_tb) (hs : x_sh N = (22, n)) (hn : ¬ i < 0) (hi : i.toNatClampNeg = n) (hsz : n ≤ 10000) (hb : N + 1 ≤ N0 + μ.2.2.2.2.1) (hbs : x_sl N + n ≤ x_sl N0 + μ.2.2.2.2.2)
    (h : x_Wg d μ N0 Q (N + 1) (pc + 2) L (.ref N :: st) (x_nw σ N)) : x_Wg d μ N0 Q N pc L (.int i :: st) σ := by
  intro l G p e s m args below meth c X h0 h1 h2 H locs ls hW hS hl
  have hsl : x_sl (N + 1) = x_sl N + n := by show x_sl N + (x_sh N).2 = _; rw [hs]
  have hle := x_sl_le h0
  have hby : n * componentBytes .long ≤ 536870912 := by
    have h8 : componentBytes .long ≤ 8 := by decide
    have := Nat.mul_le_mul hsz h8
    omega
  refine va_newa (atype := .long) (ty := .long) (a0 := (n, .inr (.inl (fun _ => 0)))) (N' := n) X.1 X.2.1 (x_word X hw) rfl X.2.2.2.2.2.2.2.2.1.1 hW x_D hS (fun q hq => by show G.2.2.1 ≤ q; have := X.2.2.2.2.2.2.2.2.2; omega) (fun _ => rfl) hn hi hby (by show N - N0 + 1 ≤ μ.2.2.2.2.1; omega) (by show x_sl N - x_sl N0 + n ≤ μ.2.2.2.2.2; omega) hd ?_
  intro q cA H1 hK1 hP1 hD1 hS1 T0 hT0 Y
  have hq := x_newat X Y hT0 h0 hP1 hD1
  subst hq
  have hcA : cA = G.2.1 2 := x_arrcls (ty := .long) (fun _ => nofun) (hK1.2 5 _ rfl).2 (X.2.2.2.2.2.2.2.2.1.1.2 2 _ rfl).2
  subst hcA
  rw [x_ws_new (σ' := x_nw σ N) (by rw [x_el_l hs]; simp [x_nw]) (fun a ha => x_el_nw (by omega))] at hP1
  have k := h l G p e s m args below meth c X (by omega) hb (by rw [hsl]; exact hbs) H1 locs ls hP1 hS1 hl
  rw [show N + 1 - N0 = N - N0 + 1 by omega, hsl, show x_sl N + n - x_sl N0 = x_sl N - x_sl N0 + n by omega] at k
  exact k T0 hT0 Y
set_option maxHeartbeats 4000000 in
theorem o_anewaT {n j : Nat} {i : Int32} (hd : decode μ.2.1 pc = .ok (.anewarray j, 3)) (hw : Cond.classLink μ.1.cls j "NoonOnABarrow$Text" ∈ x_tb) (hs : x_sh N = (23, n)) (hn : ¬ i < 0) (hi : i.toNatClampNeg = n) (hsz : n ≤ 10000) (hb : N + 1 ≤ N0 + μ.2.2.2.2.1) (hbs : x_sl N + n ≤ x_sl N0 + μ.2.2.2.2.2)
    (h : x_Wg d μ N0 Q (N + 1) (pc + 3) L (.ref N :: st) (x_nw σ N)) : x_Wg d μ N0 Q N pc L (.int i :: st) σ := by
  intro l G p e s m args below meth c X h0 h1 h2 H locs ls hW hS hl
  have hsl : x_sl (N + 1) = x_sl N + n := by show x_sl N + (x_sh N).2 = _; rw [hs]
  have hle := x_sl_le h0
  refine va_newq (N' := n) (C := "NoonOnABarrow$Text") X.1 X.2.1 X.2.2.2.2.1 (x_word X hw) X.2.2.2.2.2.2.2.2.1.2.2.2.2.2.2.2.2.2.1 X.2.2.2.2.2.2.2.2.1.1 hW x_D hS (fun q hq => by show G.2.2.1 ≤ q; have := X.2.2.2.2.2.2.2.2.2; omega) hn hi (by omega) (by show N - N0 + 1 ≤ μ.2.2.2.2.1; omega) (by show x_sl N - x_sl N0 + n ≤ μ.2.2.2.2.2; omega) hd ?_
  intro q cA H1 hK1 hP1 hD1 hS1 T0 hT0 Y
  have hq := x_newat X Y hT0 h0 hP1 hD1
  subst hq
  have hcA : cA = G.2.1 3 := by
    obtain ⟨_, _, _, _, _, f1⟩ := (hK1.2 5 _ rfl).2
    obtain ⟨_, _, _, _, _, f2⟩ := (X.2.2.2.2.2.2.2.2.1.1.2 3 _ rfl).2
    exact Option.some.inj (f1.symm.trans f2)
  subst hcA
  rw [x_ws_new (σ' := x_nw σ N) (by rw [x_el_t hs]; simp [x_nw]) (fun a ha => x_el_nw (by omega))] at hP1
  have k := h l G p e s m args below meth c X (by omega) hb (by rw [hsl]; exact hbs) H1 locs ls hP1 hS1 hl
  rw [show N + 1 - N0 = N - N0 + 1 by omega, hsl, show x_sl N + n - x_sl N0 = x_sl N - x_sl N0 + n by omega] at k
  exact k T0 hT0 Y
theorem o_aastT {o v n n1 t : Nat} {i : Int32} {q : vw_C} (hd : decode μ.2.1 pc = .ok (.aastore, 1)) (hs : x_sh o = (23, n)) (ho : o < N) (hi : vp_in i n) (hv : x_sh v = (t, n1)) (hvN : v < N) (hc : vwCl[t]? = some q) (hq : q.1 = "NoonOnABarrow$Text") (h : x_Wg d μ N0 Q N (pc + 1) L st (x_wr σ o i.toNatClampNeg (some v))) : x_Wg d μ N0 Q N pc L (.ref v :: .int i :: .ref o :: st) σ := by
  intro l G p e s m args below meth c X h0 h1 h2 H locs ls hW hS hl
  refine va_astq (H0 := s.heap) (r := q) X.1 X.2.1 X.2.2.2.2.2.2.2.2.1.1 hW x_D hS o 3 v t (by rw [x_ws_at ho, x_el_t hs]) (by rw [hq]; rfl) (by rw [x_ws_at hvN, x_el_o hv (x_t13 hc)]) hc hi hd (fun H1 locs1 hP1 hD1 hS1 => ?_)
  refine h l G p e s m args below meth c X h0 h1 h2 H1 locs1 ls ?_ hS1 hl
  rw [x_ws_set (σ' := x_wr σ o i.toNatClampNeg (some v)) ho] at hP1
  · exact hP1
  · rw [x_el_t hs]
    congr 7
    funext b
    simp only [x_wr, va_up]
    by_cases hb : b = i.toNatClampNeg
    · simp [hb]
    · simp [hb]
  · intro a ha; exact x_el_wr ha
set_option maxHeartbeats 4000000 in
theorem o_anewaD {n j : Nat} {i : Int32} (hd : decode μ.2.1 pc = .ok (.anewarray j, 3)) (hw : Cond.classLink μ.1.cls j "NoonOnABarrow$Day" ∈ x_tb) (hs : x_sh N = (24, n)) (hn : ¬ i < 0) (hi : i.toNatClampNeg = n) (hsz : n ≤ 10000) (hb : N + 1 ≤ N0 + μ.2.2.2.2.1) (hbs : x_sl N + n ≤ x_sl N0 + μ.2.2.2.2.2)
    (h : x_Wg d μ N0 Q (N + 1) (pc + 3) L (.ref N :: st) (x_nw σ N)) : x_Wg d μ N0 Q N pc L (.int i :: st) σ := by
  intro l G p e s m args below meth c X h0 h1 h2 H locs ls hW hS hl
  have hsl : x_sl (N + 1) = x_sl N + n := by show x_sl N + (x_sh N).2 = _; rw [hs]
  have hle := x_sl_le h0
  refine va_newq (N' := n) (C := "NoonOnABarrow$Day") X.1 X.2.1 X.2.2.2.2.1 (x_word X hw) X.2.2.2.2.2.2.2.2.1.2.2.2.2.2.2.2.2.2.2.1 X.2.2.2.2.2.2.2.2.1.1 hW x_D hS (fun q hq => by show G.2.2.1 ≤ q; have := X.2.2.2.2.2.2.2.2.2; omega) hn hi (by omega) (by show N - N0 + 1 ≤ μ.2.2.2.2.1; omega) (by show x_sl N - x_sl N0 + n ≤ μ.2.2.2.2.2; omega) hd ?_
  intro q cA H1 hK1 hP1 hD1 hS1 T0 hT0 Y
  have hq := x_newat X Y hT0 h0 hP1 hD1
  subst hq
  have hcA : cA = G.2.1 4 := by
    obtain ⟨_, _, _, _, _, f1⟩ := (hK1.2 5 _ rfl).2
    obtain ⟨_, _, _, _, _, f2⟩ := (X.2.2.2.2.2.2.2.2.1.1.2 4 _ rfl).2
    exact Option.some.inj (f1.symm.trans f2)
  subst hcA
  rw [x_ws_new (σ' := x_nw σ N) (by rw [x_el_d hs]; simp [x_nw]) (fun a ha => x_el_nw (by omega))] at hP1
  have k := h l G p e s m args below meth c X (by omega) hb (by rw [hsl]; exact hbs) H1 locs ls hP1 hS1 hl
  rw [show N + 1 - N0 = N - N0 + 1 by omega, hsl, show x_sl N + n - x_sl N0 = x_sl N - x_sl N0 + n by omega] at k
  exact k T0 hT0 Y
theorem o_aastD {o v n n1 t : Nat} {i : Int32} {q : vw_C} (hd : decode μ.2.1 pc = .ok (.aastore, 1)) (hs : x_sh o = (24, n)) (ho : o < N) (hi : vp_in i n) (hv : x_sh v = (t, n1)) (hvN : v < N) (hc : vwCl[t]? = some q) (hq : q.1 = "NoonOnABarrow$Day") (h : x_Wg d μ N0 Q N (pc + 1) L st (x_wr σ o i.toNatClampNeg (some v))) : x_Wg d μ N0 Q N pc L (.ref v :: .int i :: .ref o :: st) σ := by
  intro l G p e s m args below meth c X h0 h1 h2 H locs ls hW hS hl
  refine va_astq (H0 := s.heap) (r := q) X.1 X.2.1 X.2.2.2.2.2.2.2.2.1.1 hW x_D hS o 4 v t (by rw [x_ws_at ho, x_el_d hs]) (by rw [hq]; rfl) (by rw [x_ws_at hvN, x_el_o hv (x_t13 hc)]) hc hi hd (fun H1 locs1 hP1 hD1 hS1 => ?_)
  refine h l G p e s m args below meth c X h0 h1 h2 H1 locs1 ls ?_ hS1 hl
  rw [x_ws_set (σ' := x_wr σ o i.toNatClampNeg (some v)) ho] at hP1
  · exact hP1
  · rw [x_el_d hs]
    congr 7
    funext b
    simp only [x_wr, va_up]
    by_cases hb : b = i.toNatClampNeg
    · simp [hb]
    · simp [hb]
  · intro a ha; exact x_el_wr ha
/-- a final field in its class's constructor -/
theorem o_putF {o t n k i r : Nat} {C : String} {T : u_T} {ty : FieldType} (hd : decode μ.2.1 pc = .ok (.putfield i, 3)) (hs : x_sh o = (t, n)) (ho : o < N) (hc : vwCl[t]? = some (C, T, n)) (hk : k < n) (hf : (T k).2.2.2 = true) (hin : μ.1.name = "<init>") (hde : (T k).1 = μ.1.cls) (ht : x_ty t k = ty) (hty : (∃ C1, ty = .object C1) ∨ ∃ t1, ty = .array t1) (hw : Cond.fieldLink μ.1.cls i (T k).1 (T k).2.1 (T k).2.2.1 ∈ x_tb) (h : x_Wg d μ N0 Q N (pc + 3) L st (x_wr σ o k (some r))) : x_Wg d μ N0 Q N pc L (.ref r :: .ref o :: st) σ := by
  intro l G p e s m args below meth c X h0 h1 h2 H locs ls hW hS hl
  have hv : narrow ty (.ref (G.2.2.1 + r)) = .ref (G.2.2.1 + r) ∧ fits ty (.ref (G.2.2.1 + r)) = true := by rcases hty with ⟨_, rfl⟩ | ⟨_, rfl⟩ <;> exact ⟨rfl, rfl⟩
  refine va_putF (Ts := x_w μ) (v := .ref (G.2.2.1 + r)) (H0 := s.heap) X.1 X.2.1 X.2.2.2.2.2.2.2.1 (fun w h => List.mem_cons_of_mem _ (x_inX hc w h)) (x_ty t) (x_tyX hc) (x_nmX hc) X.2.2.2.2.1 X.2.2.2.2.2.2.2.2.1.1 hW x_D hS o (by rw [x_ws_at ho, x_el_o hs (x_t13 hc)]) hc k hk (x_word X hw) (fun _ h => h) hf (X.2.2.2.2.2.2.1.trans hin) hde (ty := ty) (by rw [x_tyX hc k hk, ht]) hv.1 hv.2 (by rw [List.length_map, List.length_range]; exact hk) hd (fun H1 locs1 hP1 hD1 hS1 => ?_)
  refine h l G p e s m args below meth c X h0 h1 h2 H1 locs1 ls ?_ hS1 hl
  rw [x_ws_set (σ' := x_wr σ o k (some r)) ho] at hP1
  · exact hP1
  · rw [x_el_o hs (x_t13 hc)]
    congr 2
    symm
    apply x_fs_set
    · rw [ht]; rcases hty with ⟨_, rfl⟩ | ⟨_, rfl⟩ <;> simp [x_av, x_wr, x_rf, x_ad]
    · intro j hj
      unfold x_av
      split <;> simp [x_wr, hj]
  · intro a ha; exact x_el_wr ha
theorem o_objInit {i o : Nat} (hd : decode μ.2.1 pc = .ok (.invokespecial i, 3)) (hw : Cond.methodLink μ.1.cls i Lib.objectInit ∈ x_tb) (hq : Cond.instanceMethod Lib.objectInit ∈ x_tb ∧ Cond.code Lib.objectInit ⟨#[0xb1]⟩ 1 none ∈ x_tb) (hcat : (st.map fun v => v.category).sum ≤ 8) (h : x_Wg (d + 1) μ N0 Q N (pc + 3) L st σ) : x_Wg (d + 1) μ N0 Q N pc L (.ref o :: st) σ := by
  intro l G p e s m args below meth c X h0 h1 h2 H locs ls hW hS hl
  exact W.objInit X.1 X.2.1 X.2.2.2.2.1 (x_word X hw) (x_word X hq.1) (x_word X hq.2) rfl (hl.1.trans X.2.2.2.1.symm) rfl hd (by show 1 ≤ d + 1; omega) (by show 2 * 0 + ((st.map (x_ad G.2.2.1)).map fun v => v.category).sum + 12 ≤ 40 * (d + 1); rw [x_cats]; omega) (h l G p e s m args below meth c X h0 h1 h2 H locs ls hW hS hl)
set_option maxHeartbeats 4000000 in
theorem o_callI {y : MethodName} {cc : ByteArray} {mL mc ms n i o : Nat} {vs : List Value} {μ' : x_M} (hμ : μ' = (y, cc, mL, none, mc, ms)) (hd : decode μ.2.1 pc = .ok (.invokespecial i, 3)) (hl' : Cond.methodLink μ.1.cls i μ'.1 ∈ x_tb) (hk : x_cok μ' n) (kin : Cond.instanceMethod μ'.1 ∈ x_tb) (hnm : μ'.1.name = "<init>") (hst : st' = vs.reverse ++ .ref o :: st) (hn : vs.length = n) (hcat : (st.map fun v => v.category).sum ≤ 8) (hb : N + mc ≤ N0 + μ.2.2.2.2.1) (hbs : x_sl N + ms ≤ x_sl N0 + μ.2.2.2.2.2) (hsl : x_sl (N + mc) = x_sl N + ms)
    (h : x_Mt d μ' N (.ref o :: vs) σ (fun σ' v => x_Wg (d + 1) μ N0 Q (N + mc) (pc + 3) L (v.toList ++ st) σ')) : x_Wg (d + 1) μ N0 Q N pc L st' σ := by
  intro l G p e s m args below meth c X h0 h1 h2 H locs ls hW hS hl T hT Y
  have hsz := x_size X Y hT h0 hW hS
  have hle := x_sl_le h0
  subst hμ
  obtain ⟨ki, kc, kd, km⟩ := hk
  have hrun := va_runI (H := H) (locs := locs) (cells := N - N0) (slots := x_sl N - x_sl N0) (R := x_rm (d + 1) μ) (below := below) (meth := meth) (b := G.2.2.1 + o) (As := vs.map (x_ad G.2.2.1)) (rest := st.map (x_ad G.2.2.1)) (g := F0 m pc ls (st'.map (x_ad G.2.2.1))) (index := i) (n := n) (nL := μ.2.2.1) (e := e) (own := μ.1.cls) ⟨X.1, X.2.1, X.2.2.2.1, X.2.2.2.2.1, X.2.2.2.2.2.2.2.1⟩ (h l G)
    (cwI n X.2.2.2.2.2.2.2.1 (x_good kc) rfl rfl rfl (x_word X ki) (x_word X hl') (x_word X kin) hnm kd ⟨by show d + 1 ≤ d + 1; omega, by have km : mL ≤ 21 := km; show 8 + (mL + 11) + 40 * d ≤ 40 * (d + 1); omega⟩)
    ⟨x_blind, fun U hU hV => ⟨rfl, x_enter X hsz hW hS hU hV⟩⟩
    rfl (by rw [List.length_map]; exact hn) hl.1 (by rw [hst]; simp [x_ad]) (lv_room (by rw [x_cats]; exact hcat)) hd ⟨by show N - N0 + mc ≤ μ.2.2.2.2.1; omega, by show x_sl N - x_sl N0 + ms ≤ μ.2.2.2.2.2; omega⟩
  refine x_run hrun hS (fun v σ' H1 locs1 hK hW1 hS1 => ?_) T hT Y
  rw [x_toL]
  have k := hK l G p e s m args below meth c X (by omega) hb (by rw [hsl]; exact hbs) H1 locs1 ls hW1 hS1 hl
  rw [show N + mc - N0 = N - N0 + mc by omega, hsl, show x_sl N + ms - x_sl N0 = x_sl N - x_sl N0 + ms by omega] at k
  exact k
set_option maxHeartbeats 4000000 in
theorem o_callIN {y : MethodName} {cc : ByteArray} {mL mc ms n i o : Nat} {hn0 : String} {vs : List Value} {μ' : x_M} (hμ : μ' = (y, cc, mL, none, mc, ms)) (hd : decode μ.2.1 pc = .ok (.invokespecial i, 3)) (hl' : (μ.1.cls, i, μ'.1, hn0) ∈ x_nm) (hk : x_cok μ' n) (kin : Cond.instanceMethod μ'.1 ∈ x_tb) (hnm : μ'.1.name = "<init>") (hst : st' = vs.reverse ++ .ref o :: st) (hn : vs.length = n) (hcat : (st.map fun v => v.category).sum ≤ 8) (hb : N + mc ≤ N0 + μ.2.2.2.2.1) (hbs : x_sl N + ms ≤ x_sl N0 + μ.2.2.2.2.2) (hsl : x_sl (N + mc) = x_sl N + ms)
    (h : x_Mt d μ' N (.ref o :: vs) σ (fun σ' v => x_Wg (d + 1) μ N0 Q (N + mc) (pc + 3) L (v.toList ++ st) σ')) : x_Wg (d + 1) μ N0 Q N pc L st' σ := by
  intro l G p e s m args below meth c X h0 h1 h2 H locs ls hW hS hl T hT Y
  have hsz := x_size X Y hT h0 hW hS
  have hle := x_sl_le h0
  subst hμ
  obtain ⟨ki, kc, kd, km⟩ := hk
  have hrun := va_runIN (H := H) (locs := locs) (cells := N - N0) (slots := x_sl N - x_sl N0) (R := x_rm (d + 1) μ) (below := below) (meth := meth) (b := G.2.2.1 + o) (As := vs.map (x_ad G.2.2.1)) (rest := st.map (x_ad G.2.2.1)) (g := F0 m pc ls (st'.map (x_ad G.2.2.1))) (index := i) (n := n) (nL := μ.2.2.1) (e := e) (own := μ.1.cls) (host := hn0) ⟨X.1, X.2.1, X.2.2.2.1, X.2.2.2.2.1, X.2.2.2.2.2.2.2.1⟩ (h l G)
    (⟨va_cnB n X.2.2.2.2.2.2.2.1 (x_good kc) rfl rfl rfl (X.2.2.2.2.2.2.2.2.1.2.2.2.2.2.2.2.1 _ hl') (x_word X ki) kd ⟨by show d + 1 ≤ d + 1; omega, by have km : mL ≤ 21 := km; show 8 + (mL + 11) + 40 * d ≤ 40 * (d + 1); omega⟩, hnm, x_word X kin⟩)
    ⟨x_blind, fun U hU hV => ⟨rfl, x_enter X hsz hW hS hU hV⟩⟩
    rfl (by rw [List.length_map]; exact hn) hl.1 (by rw [hst]; simp [x_ad]) (lv_room (by rw [x_cats]; exact hcat)) hd ⟨by show N - N0 + mc ≤ μ.2.2.2.2.1; omega, by show x_sl N - x_sl N0 + ms ≤ μ.2.2.2.2.2; omega⟩
  refine x_run hrun hS (fun v σ' H1 locs1 hK hW1 hS1 => ?_) T hT Y
  rw [x_toL]
  have k := hK l G p e s m args below meth c X (by omega) hb (by rw [hsl]; exact hbs) H1 locs1 ls hW1 hS1 hl
  rw [show N + mc - N0 = N - N0 + mc by omega, hsl, show x_sl N + ms - x_sl N0 = x_sl N - x_sl N0 + ms by omega] at k
  exact k
end XCT
