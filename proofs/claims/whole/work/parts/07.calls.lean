section XCALL
variable {d : Nat} {μ : x_M} {N0 : Nat} {Q : x_S → Option Value → Prop} {N pc : Nat} {L L' : List (Nat × Value)} {st st' : List Value} {σ : x_S}
theorem x_ad_rf (z : Nat) (r : Option Nat) : x_ad z (x_rf r) = va_rf (r.map (z + ·)) := by cases r <;> rfl
theorem o_iald {o n : Nat} {i : Int32} (hd : decode μ.2.1 pc = .ok (.iaload, 1)) (hs : x_sh o = (20, n)) (ho : o < N) (hi : vp_in i n) (h : x_Wg d μ N0 Q N (pc + 1) L (.int (σ.1 o i.toNatClampNeg) :: st) σ) : x_Wg d μ N0 Q N pc L (.int i :: .ref o :: st) σ := by
  intro l G p e s m args below meth c X h0 h1 h2 H locs ls hW hS hl
  exact va_iald X.1 X.2.1 X.2.2.2.2.2.2.2.2.1.1 hW o 0 (by rw [x_ws_at ho, x_el_i hs]) rfl hi hd (h l G p e s m args below meth c X h0 h1 h2 H locs ls hW hS hl)
theorem o_bald {o n : Nat} {i : Int32} (hd : decode μ.2.1 pc = .ok (.baload, 1)) (hs : x_sh o = (21, n)) (ho : o < N) (hi : vp_in i n) (h : x_Wg d μ N0 Q N (pc + 1) L (.int (σ.1 o i.toNatClampNeg) :: st) σ) : x_Wg d μ N0 Q N pc L (.int i :: .ref o :: st) σ := by
  intro l G p e s m args below meth c X h0 h1 h2 H locs ls hW hS hl
  exact va_bald X.1 X.2.1 X.2.2.2.2.2.2.2.2.1.1 hW o 1 (by rw [x_ws_at ho, x_el_b hs]) rfl hi hd (h l G p e s m args below meth c X h0 h1 h2 H locs ls hW hS hl)
theorem o_lald {o n : Nat} {i : Int32} (hd : decode μ.2.1 pc = .ok (.laload, 1)) (hs : x_sh o = (22, n)) (ho : o < N) (hi : vp_in i n) (h : x_Wg d μ N0 Q N (pc + 1) L (.long (σ.2.1 o i.toNatClampNeg) :: st) σ) : x_Wg d μ N0 Q N pc L (.int i :: .ref o :: st) σ := by
  intro l G p e s m args below meth c X h0 h1 h2 H locs ls hW hS hl
  exact va_lald X.1 X.2.1 X.2.2.2.2.2.2.2.2.1.1 hW o 2 (by rw [x_ws_at ho, x_el_l hs]) rfl hi hd (h l G p e s m args below meth c X h0 h1 h2 H locs ls hW hS hl)
theorem o_aaldT {o n : Nat} {i : Int32} (hd : decode μ.2.1 pc = .ok (.aaload, 1)) (hs : x_sh o = (23, n)) (ho : o < N) (hi : vp_in i n) (h : x_Wg d μ N0 Q N (pc + 1) L (x_rf (σ.2.2 o i.toNatClampNeg) :: st) σ) : x_Wg d μ N0 Q N pc L (.int i :: .ref o :: st) σ := by
  intro l G p e s m args below meth c X h0 h1 h2 H locs ls hW hS hl
  have k := h l G p e s m args below meth c X h0 h1 h2 H locs ls hW hS hl
  rw [List.map_cons, x_ad_rf] at k
  exact va_aldq X.1 X.2.1 X.2.2.2.2.2.2.2.2.1.1 hW o 3 (by rw [x_ws_at ho, x_el_t hs]) rfl hi hd k
theorem o_aaldD {o n : Nat} {i : Int32} (hd : decode μ.2.1 pc = .ok (.aaload, 1)) (hs : x_sh o = (24, n)) (ho : o < N) (hi : vp_in i n) (h : x_Wg d μ N0 Q N (pc + 1) L (x_rf (σ.2.2 o i.toNatClampNeg) :: st) σ) : x_Wg d μ N0 Q N pc L (.int i :: .ref o :: st) σ := by
  intro l G p e s m args below meth c X h0 h1 h2 H locs ls hW hS hl
  have k := h l G p e s m args below meth c X h0 h1 h2 H locs ls hW hS hl
  rw [List.map_cons, x_ad_rf] at k
  exact va_aldq X.1 X.2.1 X.2.2.2.2.2.2.2.2.1.1 hW o 4 (by rw [x_ws_at ho, x_el_d hs]) rfl hi hd k
theorem o_iast {o n : Nat} {i x : Int32} (hd : decode μ.2.1 pc = .ok (.iastore, 1)) (hs : x_sh o = (20, n)) (ho : o < N) (hi : vp_in i n) (h : x_Wg d μ N0 Q N (pc + 1) L st (x_wi σ o i.toNatClampNeg x)) : x_Wg d μ N0 Q N pc L (.int x :: .int i :: .ref o :: st) σ := by
  intro l G p e s m args below meth c X h0 h1 h2 H locs ls hW hS hl
  refine va_iast (H0 := s.heap) X.1 X.2.1 X.2.2.2.2.2.2.2.2.1.1 hW x_D hS o 0 (by rw [x_ws_at ho, x_el_i hs]) rfl hi hd (fun H1 locs1 hP1 hD1 hS1 => ?_)
  refine h l G p e s m args below meth c X h0 h1 h2 H1 locs1 ls ?_ hS1 hl
  rw [x_ws_set (σ' := x_wi σ o i.toNatClampNeg x) ho] at hP1
  · exact hP1
  · rw [x_el_i hs]
    congr 4
    funext b
    simp [x_wi, upd]
  · intro a ha; exact x_el_wi ha
theorem o_bast {o n : Nat} {i x : Int32} (hd : decode μ.2.1 pc = .ok (.bastore, 1)) (hs : x_sh o = (21, n)) (ho : o < N) (hi : vp_in i n) (h : x_Wg d μ N0 Q N (pc + 1) L st (x_wi σ o i.toNatClampNeg (vp_nar .byte x))) : x_Wg d μ N0 Q N pc L (.int x :: .int i :: .ref o :: st) σ := by
  intro l G p e s m args below meth c X h0 h1 h2 H locs ls hW hS hl
  refine va_bast (H0 := s.heap) X.1 X.2.1 X.2.2.2.2.2.2.2.2.1.1 hW x_D hS o 1 (by rw [x_ws_at ho, x_el_b hs]) rfl hi hd (fun H1 locs1 hP1 hD1 hS1 => ?_)
  refine h l G p e s m args below meth c X h0 h1 h2 H1 locs1 ls ?_ hS1 hl
  rw [x_ws_set (σ' := x_wi σ o i.toNatClampNeg (vp_nar .byte x)) ho] at hP1
  · exact hP1
  · rw [x_el_b hs]
    congr 4
    funext b
    simp [x_wi, upd]
  · intro a ha; exact x_el_wi ha
theorem o_last {o n : Nat} {i : Int32} {x : Int64} (hd : decode μ.2.1 pc = .ok (.lastore, 1)) (hs : x_sh o = (22, n)) (ho : o < N) (hi : vp_in i n) (h : x_Wg d μ N0 Q N (pc + 1) L st (x_wl σ o i.toNatClampNeg x)) : x_Wg d μ N0 Q N pc L (.long x :: .int i :: .ref o :: st) σ := by
  intro l G p e s m args below meth c X h0 h1 h2 H locs ls hW hS hl
  refine va_last (H0 := s.heap) X.1 X.2.1 X.2.2.2.2.2.2.2.2.1.1 hW x_D hS o 2 (by rw [x_ws_at ho, x_el_l hs]) rfl hi hd (fun H1 locs1 hP1 hD1 hS1 => ?_)
  refine h l G p e s m args below meth c X h0 h1 h2 H1 locs1 ls ?_ hS1 hl
  rw [x_ws_set (σ' := x_wl σ o i.toNatClampNeg x) ho] at hP1
  · exact hP1
  · rw [x_el_l hs]
    congr 5
    funext b
    simp [x_wl, vp_updL]
  · intro a ha; exact x_el_wl ha
theorem o_alen {o t n : Nat} {v : Int32} (hd : decode μ.2.1 pc = .ok (.arraylength, 1)) (hs : x_sh o = (t, n)) (ht : 20 ≤ t ∧ t ≤ 24) (ho : o < N) (hv : Int32.ofNat n = v) (h : x_Wg d μ N0 Q N (pc + 1) L (.int v :: st) σ) : x_Wg d μ N0 Q N pc L (.ref o :: st) σ := by
  intro l G p e s m args below meth c X h0 h1 h2 H locs ls hW hS hl
  have k := h l G p e s m args below meth c X h0 h1 h2 H locs ls hW hS hl
  rcases (show t = 20 ∨ t = 21 ∨ t = 22 ∨ t = 23 ∨ t = 24 by omega) with rfl | rfl | rfl | rfl | rfl
  · exact va_alen X.1 X.2.1 X.2.2.2.2.2.2.2.2.1.1 hW o 0 (by rw [x_ws_at ho, x_el_i hs]) rfl hv hd k
  · exact va_alen X.1 X.2.1 X.2.2.2.2.2.2.2.2.1.1 hW o 1 (by rw [x_ws_at ho, x_el_b hs]) rfl hv hd k
  · exact va_alen X.1 X.2.1 X.2.2.2.2.2.2.2.2.1.1 hW o 2 (by rw [x_ws_at ho, x_el_l hs]) rfl hv hd k
  · exact va_alen X.1 X.2.1 X.2.2.2.2.2.2.2.2.1.1 hW o 3 (by rw [x_ws_at ho, x_el_t hs]) rfl hv hd k
  · exact va_alen X.1 X.2.1 X.2.2.2.2.2.2.2.2.1.1 hW o 4 (by rw [x_ws_at ho, x_el_d hs]) rfl hv hd k
/-- a reference is written to a field that isn't final -/
theorem o_putR {o t n k i : Nat} {C C1 : String} {T : u_T} {r : Option Nat} (hd : decode μ.2.1 pc = .ok (.putfield i, 3)) (hs : x_sh o = (t, n)) (ho : o < N) (hc : vwCl[t]? = some (C, T, n)) (hk : k < n) (hf : (T k).2.2.2 = false) (ht : x_ty t k = .object C1) (hw : Cond.fieldLink μ.1.cls i (T k).1 (T k).2.1 (T k).2.2.1 ∈ x_tb) (h : x_Wg d μ N0 Q N (pc + 3) L st (x_wr σ o k r)) : x_Wg d μ N0 Q N pc L (x_rf r :: .ref o :: st) σ := by
  intro l G p e s m args below meth c X h0 h1 h2 H locs ls hW hS hl
  have hv : narrow (.object C1) (x_ad G.2.2.1 (x_rf r)) = x_ad G.2.2.1 (x_rf r) ∧ fits (.object C1) (x_ad G.2.2.1 (x_rf r)) = true := by cases r <;> exact ⟨rfl, rfl⟩
  refine va_put (Ts := x_w μ) (v := x_ad G.2.2.1 (x_rf r)) (H0 := s.heap) X.1 X.2.1 X.2.2.2.2.2.2.2.1 (fun w h => List.mem_cons_of_mem _ (x_inX hc w h)) (x_ty t) (x_tyX hc) (x_nmX hc) X.2.2.2.2.1 X.2.2.2.2.2.2.2.2.1.1 hW x_D hS o (by rw [x_ws_at ho, x_el_o hs (x_t13 hc)]) hc k hk (x_word X hw) (fun _ h => h) hf (ty := .object C1) (by rw [x_tyX hc k hk, ht]) hv.1 hv.2 (by rw [List.length_map, List.length_range]; exact hk) hd (fun H1 locs1 hP1 hD1 hS1 => ?_)
  refine h l G p e s m args below meth c X h0 h1 h2 H1 locs1 ls ?_ hS1 hl
  rw [x_ws_set (σ' := x_wr σ o k r) ho] at hP1
  · exact hP1
  · rw [x_el_o hs (x_t13 hc)]
    congr 2
    symm
    apply x_fs_set
    · rw [ht]; simp [x_av, x_wr]
    · intro j hj
      unfold x_av
      split <;> simp [x_wr, hj]
  · intro a ha; exact x_el_wr ha
/-- behind a call -/
theorem x_run {p : Program} {l : Launch} {e : Env} {R : Room} {s : State} {m : MethodId} {args : Array Value} {below : List Frame} {meth : Method} {c : Code} {H : Heap} {locs : List Loc} {cells slots mc ms : Nat} {Q0 : State → Prop} {G : x_G} {ls : Array Slot} {st0 rest : List Value} {K : x_S → Option Value → Prop} {μ' : x_M} {N : Nat} {a : Array Value}
    (hr : va_Run p l e R s m args below meth c H locs cells slots mc ms (F0 m pc ls st0) rest (x_Qc G N μ' K a) (x_A G)) (hS : va_S (x_A G) s.heap H locs)
    (kk : ∀ (v : Option Value) (σ' : x_S) (H1 : Heap) (locs1 : List Loc), K σ' v → x_W G (N + μ'.2.2.2.2.1) σ' H1 → va_S (x_A G) s.heap H1 locs1 → W p l e R s m args below meth c H1 locs1 (cells + mc) (slots + ms) Q0 (F0 m (pc + 3) ls ((v.map (x_ad G.2.2.1)).toList ++ rest))) : W p l e R s m args below meth c H locs cells slots Q0 (F0 m pc ls st0) := by
  intro T hT X
  obtain ⟨v, st₀, t, T', L, g0, X', hL, e1, e2, ⟨⟨v', σ', ho, hK, hw⟩, hF⟩, go⟩ := hr T hT X
  have hv : v = v'.map (x_ad G.2.2.1) := Outcome.returned.inj ho
  subst hv
  have hS' : va_S (x_A G) s.heap t.heap (locs ++ L) := by
    rw [va_F, g0] at hF
    refine ⟨Nat.le_trans hS.1 hF.1, fun q h1 h2 => ?_, fun q hq => ?_⟩
    · rw [hF.2 q (Nat.lt_of_lt_of_le h1 hS.1) h2]
      exact hS.2.1 q h1 h2
    · rcases List.mem_append.mp hq with h | h
      · exact hS.2.2 q h
      · exact hL q h
  obtain ⟨t2, a1, b1⟩ := kk v' σ' t.heap (locs ++ L) hK hw hS' T' e1 X'
  exact ⟨t2, go t2 a1, b1⟩
theorem x_good {μ' : x_M} (h : Cond.code μ'.1 μ'.2.1 μ'.2.2.1 μ'.2.2.2.1 ∈ x_tb) : GoodIn (x_w μ) (x_w μ') := by
  intro w hw
  have h1 : w ∈ x_tb := by
    rcases List.mem_cons.mp hw with q | q
    · rw [q]; exact h
    · exact q
  exact ⟨List.mem_cons_of_mem _ h1, good_of_word (List.mem_filter.mp h1).2⟩
theorem x_goodL {ws : List Cond} (h : ∀ w ∈ ws, w ∈ x_tb) : GoodIn (x_w μ) ws := fun w hw => ⟨List.mem_cons_of_mem _ (h w hw), good_of_word (List.mem_filter.mp (h w hw)).2⟩
def x_cok (μ' : x_M) (n : Nat) : Prop := Cond.initialized μ'.1.cls ∈ x_tb ∧ Cond.code μ'.1 μ'.2.1 μ'.2.2.1 μ'.2.2.2.1 ∈ x_tb ∧ (μ'.1.cls ≠ "java/lang/invoke/MethodHandle" ∧ μ'.1.cls ≠ "java/lang/invoke/VarHandle" ∧ (parseMethodDescriptor μ'.1.desc).map (fun d => d.parameters.length) = some n) ∧ μ'.2.2.1 ≤ 21
def x_vok (μ' : x_M) (n : Nat) : Prop := x_cok μ' n ∧ Cond.instanceMethod μ'.1 ∈ x_tb ∧ Cond.selects μ'.1.cls μ'.1 μ'.1 ∈ x_tb ∧ μ'.2.2.2.2 = (0, 0)
theorem x_blind {vs : List Value} {G : x_G} {N : Nat} {σ : x_S} : FrameBlind (va_Pc vs (fun U => U.heap.size = G.2.2.1 + N ∧ x_W G N σ U.heap ∧ x_K G U)) := by
  intro a U g mk q
  obtain ⟨q0, q1, q2, q3, q4⟩ := q
  exact ⟨q0, q1, q2, va_K.moved (u := U) (U := U.calling g mk a) (Vm.Alike.refl U.vm) q3, x_Z.same rfl rfl q4⟩
theorem x_enter {l : Launch} {G : x_G} {p : Program} {e : Env} {s : State} {m : MethodId} {args : Array Value} {meth : Method} {c : Code} {H : Heap} {locs : List Loc} (X : x_Cx l G p e s m args meth c μ N0) (hsz : H.size = G.2.2.1 + N) (hW : x_W G N σ H) (hS : va_S (x_A G) s.heap H locs) {U : State} (hU : U.heap = H) (hV : s.WarmedH U.vm) : U.heap.size = G.2.2.1 + N ∧ x_W G N σ U.heap ∧ x_K G U := by
  refine ⟨by rw [hU]; exact hsz, by rw [hU]; exact hW, va_K.moved hV.alike X.2.2.2.2.2.2.2.2.1.1, x_Z.warm hV (by rw [hU]; exact hS.1) (fun a h1 h2 => ?_) X.2.2.2.2.2.2.2.2.1.2⟩
  rw [hU]
  exact hS.2.1 a h1 h2
theorem x_cats {z : Nat} {st : List Value} : ((st.map (x_ad z)).map fun v => v.category) = st.map fun v => v.category := by
  rw [List.map_map]
  apply List.map_congr_left
  intro v _
  exact x_ad_cat z v
theorem x_toL {z : Nat} {v : Option Value} {st : List Value} : (v.map (x_ad z)).toList ++ st.map (x_ad z) = (v.toList ++ st).map (x_ad z) := by
  cases v <;> simp
set_option maxHeartbeats 4000000 in
theorem o_callV {μ' : x_M} {o t n' n i : Nat} {q : vw_C} {vs : List Value} (hd : decode μ.2.1 pc = .ok (.invokevirtual i, 3)) (hl' : Cond.methodLink μ.1.cls i μ'.1 ∈ x_tb) (hk : x_vok μ' n) (hs : x_sh o = (t, n')) (ho : o < N) (hc : vwCl[t]? = some q) (hC : μ'.1.cls = q.1) (hst : st' = vs.reverse ++ .ref o :: st) (hn : vs.length = n) (hcat : (st.map fun v => v.category).sum ≤ 8)
    (h : x_Mt d μ' N (.ref o :: vs) σ (fun σ' v => x_Wg (d + 1) μ N0 Q N (pc + 3) L (v.toList ++ st) σ')) : x_Wg (d + 1) μ N0 Q N pc L st' σ := by
  intro l G p e s m args below meth c X h0 h1 h2 H locs ls hW hS hl T hT Y
  have hsz := x_size X Y hT h0 hW hS
  obtain ⟨⟨ki, kc, kd, km⟩, kin, ksel, k0⟩ := hk
  have e1 : μ'.2.2.2.2.1 = 0 := by rw [k0]
  have e2 : μ'.2.2.2.2.2 = 0 := by rw [k0]
  have hrun := va_runV (H := H) (locs := locs) (cells := N - N0) (slots := x_sl N - x_sl N0) (R := x_rm (d + 1) μ) (below := below) (meth := meth) (b := G.2.2.1 + o) (As := vs.map (x_ad G.2.2.1)) (rest := st.map (x_ad G.2.2.1)) (g := F0 m pc ls (st'.map (x_ad G.2.2.1))) (C := q.1) (index := i) (n := n) (nL := μ.2.2.1) (e := e) (own := μ.1.cls) ⟨X.1, X.2.1, X.2.2.2.1, X.2.2.2.2.1, X.2.2.2.2.2.2.2.1⟩ (h l G)
    (cwV n X.2.2.2.2.2.2.2.1 (by
      intro w hw
      unfold wsV at hw
      rcases List.mem_append.mp hw with hw | hw
      · refine x_goodL (ws := [.methodLink μ.1.cls i μ'.1, .instanceMethod μ'.1, .selects q.1 μ'.1 μ'.1, .initialized q.1]) (fun w hw => ?_) w hw
        rw [← hC] at hw
        simp only [List.mem_cons, List.not_mem_nil, or_false] at hw
        rcases hw with rfl | rfl | rfl | rfl
        · exact hl'
        · exact kin
        · exact ksel
        · exact ki
      · exact x_good kc w hw) rfl rfl rfl ⟨hC, kd⟩ ⟨by show d + 1 ≤ d + 1; omega, by show 8 + (μ'.2.2.1 + 11) + 40 * d ≤ 40 * (d + 1); omega⟩)
    ⟨x_blind, va_recv X.2.2.2.2.2.2.2.2.1.1 hW hc (by rw [x_ws_at ho, x_el_o hs (x_t13 hc)]), fun U hU hV => ⟨rfl, x_enter X hsz hW hS hU hV⟩⟩
    rfl (by rw [List.length_map]; exact hn) hl.1 (by rw [hst]; simp [x_ad]) (lv_room (by rw [x_cats]; exact hcat)) hd ⟨by show N - N0 + _ ≤ μ.2.2.2.2.1; omega, by show x_sl N - x_sl N0 + _ ≤ μ.2.2.2.2.2; omega⟩
  refine x_run hrun hS (fun v σ' H1 locs1 hK hW1 hS1 => ?_) T hT Y
  rw [e1] at hW1
  rw [e1, e2, x_toL]
  exact hK l G p e s m args below meth c X h0 h1 h2 H1 locs1 ls hW1 hS1 hl
set_option maxHeartbeats 4000000 in
theorem o_callS {μ' : x_M} {n i : Nat} {vs : List Value} (hd : decode μ.2.1 pc = .ok (.invokestatic i, 3)) (hl' : Cond.methodLink μ.1.cls i μ'.1 ∈ x_tb) (hk : x_cok μ' n) (hk0 : μ'.2.2.2.2 = (0, 0)) (hst' : Cond.static μ'.1 ∈ x_tb) (hst : st' = vs.reverse ++ st) (hn : vs.length = n) (hcat : (st.map fun v => v.category).sum ≤ 8)
    (h : x_Mt d μ' N vs σ (fun σ' v => x_Wg (d + 1) μ N0 Q N (pc + 3) L (v.toList ++ st) σ')) : x_Wg (d + 1) μ N0 Q N pc L st' σ := by
  intro l G p e s m args below meth c X h0 h1 h2 H locs ls hW hS hl T hT Y
  have hsz := x_size X Y hT h0 hW hS
  obtain ⟨ki, kc, kd, km⟩ := hk
  have e1 : μ'.2.2.2.2.1 = 0 := by rw [hk0]
  have e2 : μ'.2.2.2.2.2 = 0 := by rw [hk0]
  have hrun := va_runS (H := H) (locs := locs) (cells := N - N0) (slots := x_sl N - x_sl N0) (R := x_rm (d + 1) μ) (below := below) (meth := meth) (As := vs.map (x_ad G.2.2.1)) (rest := st.map (x_ad G.2.2.1)) (g := F0 m pc ls (st'.map (x_ad G.2.2.1))) (index := i) (n := n) (nL := μ.2.2.1) (e := e) (own := μ.1.cls) ⟨X.1, X.2.1, X.2.2.2.1, X.2.2.2.2.1, X.2.2.2.2.2.2.2.1⟩ (h l G)
    ⟨callB_of n X.2.2.2.2.2.2.2.1 (x_good kc) rfl rfl rfl (x_word X ki) (x_word X hl') kd ⟨by show d + 1 ≤ d + 1; omega, by show 8 + (μ'.2.2.1 + 11) + 40 * d ≤ 40 * (d + 1); omega⟩, x_word X hst'⟩
    ⟨x_blind, fun U hU hV => ⟨rfl, x_enter X hsz hW hS hU hV⟩⟩
    rfl (by rw [List.length_map]; exact hn) hl.1 (by rw [hst]; simp [x_ad]) (lv_room (by rw [x_cats]; exact hcat)) hd ⟨by show N - N0 + _ ≤ μ.2.2.2.2.1; omega, by show x_sl N - x_sl N0 + _ ≤ μ.2.2.2.2.2; omega⟩
  refine x_run hrun hS (fun v σ' H1 locs1 hK hW1 hS1 => ?_) T hT Y
  rw [e1] at hW1
  rw [e1, e2, x_toL]
  exact hK l G p e s m args below meth c X h0 h1 h2 H1 locs1 ls hW1 hS1 hl
set_option maxHeartbeats 4000000 in
theorem o_callSN {μ' : x_M} {n i : Nat} {hn0 : String} {vs : List Value} (hd : decode μ.2.1 pc = .ok (.invokestatic i, 3)) (hl' : (μ.1.cls, i, μ'.1, hn0) ∈ x_nm) (hk : x_cok μ' n) (hk0 : μ'.2.2.2.2 = (0, 0)) (hst' : Cond.static μ'.1 ∈ x_tb) (hst : st' = vs.reverse ++ st) (hn : vs.length = n) (hcat : (st.map fun v => v.category).sum ≤ 8)
    (h : x_Mt d μ' N vs σ (fun σ' v => x_Wg (d + 1) μ N0 Q N (pc + 3) L (v.toList ++ st) σ')) : x_Wg (d + 1) μ N0 Q N pc L st' σ := by
  intro l G p e s m args below meth c X h0 h1 h2 H locs ls hW hS hl T hT Y
  have hsz := x_size X Y hT h0 hW hS
  obtain ⟨ki, kc, kd, km⟩ := hk
  have e1 : μ'.2.2.2.2.1 = 0 := by rw [hk0]
  have e2 : μ'.2.2.2.2.2 = 0 := by rw [hk0]
  have hrun := va_runSN (H := H) (locs := locs) (cells := N - N0) (slots := x_sl N - x_sl N0) (R := x_rm (d + 1) μ) (below := below) (meth := meth) (As := vs.map (x_ad G.2.2.1)) (rest := st.map (x_ad G.2.2.1)) (g := F0 m pc ls (st'.map (x_ad G.2.2.1))) (index := i) (n := n) (nL := μ.2.2.1) (e := e) (own := μ.1.cls) (host := hn0) ⟨X.1, X.2.1, X.2.2.2.1, X.2.2.2.2.1, X.2.2.2.2.2.2.2.1⟩ (h l G)
    ⟨va_cnB n X.2.2.2.2.2.2.2.1 (x_good kc) rfl rfl rfl (X.2.2.2.2.2.2.2.2.1.2.2.2.2.2.2.2.1 _ hl') (x_word X ki) kd ⟨by show d + 1 ≤ d + 1; omega, by show 8 + (μ'.2.2.1 + 11) + 40 * d ≤ 40 * (d + 1); omega⟩, x_word X hst', trivial⟩
    ⟨x_blind, fun U hU hV => ⟨rfl, x_enter X hsz hW hS hU hV⟩⟩
    rfl (by rw [List.length_map]; exact hn) hl.1 (by rw [hst]; simp [x_ad]) (lv_room (by rw [x_cats]; exact hcat)) hd ⟨by show N - N0 + _ ≤ μ.2.2.2.2.1; omega, by show x_sl N - x_sl N0 + _ ≤ μ.2.2.2.2.2; omega⟩
  refine x_run hrun hS (fun v σ' H1 locs1 hK hW1 hS1 => ?_) T hT Y
  rw [e1] at hW1
  rw [e1, e2, x_toL]
  exact hK l G p e s m args below meth c X h0 h1 h2 H1 locs1 ls hW1 hS1 hl
theorem x_argsm (z : Nat) (vs : List Value) : ∀ k, lv_args k (vs.map (x_ad z)) = (lv_args k vs).map fun q => (q.1, x_ad z q.2) := by
  induction vs with
  | nil => intro k; rfl
  | cons v vs ih =>
    intro k
    simp only [List.map_cons, lv_args, x_ad_cat, ih]
theorem x_slm (z : Nat) (vs : List Value) : (lg_sl (vs.map (x_ad z))).length = (lg_sl vs).length := by
  induction vs with
  | nil => rfl
  | cons v vs ih =>
    unfold lg_sl at ih ⊢
    simp only [List.map_cons, List.flatMap_cons, List.length_append, x_ad_cat, ih]
    split <;> rfl
/-- A METHOD'S CONTRACT out of its walk -/
theorem x_of {vs : List Value} (hy : plainName μ.1.cls = true) (hlen : (lg_sl vs).length ≤ μ.2.2.1) (h : x_Wg d μ N Q N 0 (lv_args 0 vs) [] σ) : x_Mt d μ N vs σ Q := by
  intro l G
  refine Met.ofW (cc := μ.2.1) (maxL := μ.2.2.1) (ret := μ.2.2.2.1) hy rfl ?_
  intro p e s m args below meth c s₁ B hml hv
  obtain ⟨rfl, hsz, hW, hK⟩ := hv
  have hts := atoms_spec (ws := x_w μ) B.pre
  have hown : s.vm.findClass μ.1.cls = some m.cls := findClass_of_methodNamed B.named
  have hl := lv_entry (vs.map (x_ad G.2.2.1)) (n := μ.2.2.1) (by rw [x_slm]; exact hlen)
  rw [lg_entry_eq]
  generalize (lg_sl (vs.map (x_ad G.2.2.1)) ++ List.replicate (μ.2.2.1 - (lg_sl (vs.map (x_ad G.2.2.1))).length) Slot.unset).toArray = ls at hl ⊢
  rw [x_argsm] at hl
  have k := h l G p e s m (vs.map (x_ad G.2.2.1)).toArray below meth c ⟨B.exec, B.bytes, B.returns, hml, hown, B.notSynchronized, (name_of_methodNamed B.named B.method).1, hts, hK, hsz⟩ (Nat.le_refl _) (Nat.le_add_right _ _) (Nat.le_add_right _ _) s.heap [] ls hW va_S.rf hl
  rw [Nat.sub_self, Nat.sub_self] at k
  exact k
end XCALL
