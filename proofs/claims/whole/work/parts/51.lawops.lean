/-- what holds through the law -/
def x_Lc (p : Program) (s : State) (m : MethodId) (meth : Method) (c : Code) (b Ln : Nat) (xs : Nat → Int32) (G : x_G) : Prop := lw_At p s m meth c b Ln xs ∧ x_K G s ∧ s.heap.size = G.2.2.1
/-- THE LAW'S JUDGEMENT -/
def x_Lj (Ln : Nat) (xs : Nat → Int32) (N pc : Nat) (L : List (Nat × Value)) (st : List Value) (σ : x_S) : Prop := ∀ (p : Program) (l : Launch) (e : Env) (s : State) (m : MethodId) (below : List Frame) (meth : Method) (c : Code) (b : Nat) (G : x_G), x_Lc p s m meth c b Ln xs G →
  ∀ (H : Heap) (locs : List Loc) (ls : Array Slot), x_W G N σ H → va_S (x_A G) s.heap H locs → lv_has ls 4 ((0, .ref b) :: L.map fun q => (q.1, x_ad G.2.2.1 q.2)) → W p l e room_1 s m #[Value.ref b] below meth c H locs N (x_sl N) (lw_Z below #[Value.ref b] s) (F0 m pc ls (st.map (x_ad G.2.2.1)))
section XL
variable {Ln : Nat} {xs : Nat → Int32} {N pc : Nat} {L L' : List (Nat × Value)} {st st' : List Value} {σ : x_S}
theorem x_lwd {p : Program} {s : State} {m : MethodId} {meth : Method} {c : Code} {b : Nat} {G : x_G} (C : x_Lc p s m meth c b Ln xs G) : ∀ w ∈ x_tb, w.before #[Value.ref b] s = true := fun w h => C.1.2.2.2.2.2.1 w (List.mem_filter.mp h).1
theorem x_lat' {ls : Array Slot} {z b : Nat} (hl : lv_has ls 4 ((0, .ref b) :: L.map fun q => (q.1, x_ad z q.2))) {j i : Nat} {v : Value} (h : L[j]? = some (i, v)) : ls[i]? = some (.val (x_ad z v)) := lv_at hl (j + 1) (by rw [List.getElem?_cons_succ, List.getElem?_map, h]; rfl)
theorem L_aload {k : Fin 4} {x : Nat} (j : Nat) (hd : decode code pc = .ok (.aload_n k, 1)) (hL : L[j]? = some ((k : Nat), .ref x)) (h : x_Lj Ln xs N (pc + 1) L (.ref x :: st) σ) : x_Lj Ln xs N pc L st σ := by
  intro p l e s m below meth c b G C H locs ls hW hS hl
  exact lv_aload_n C.1.1 C.1.2.1 hd rfl (x_lat' hl hL) (h p l e s m below meth c b G C H locs ls hW hS hl)
theorem x_bA {p : Program} {s : State} {m : MethodId} {meth : Method} {c : Code} {b : Nat} {G : x_G} (C : x_Lc p s m meth c b Ln xs G) : ¬ x_A G b := by
  have h1 := C.2.2
  have h2 := C.1.2.2.2.2.2.2.2.1
  show ¬ G.2.2.1 ≤ b
  omega
theorem L_arg {i v : Int32} {n : Int} (j : Nat) (d1 : decode code pc = .ok (.aload_n 0, 1)) (d2 : decode code (pc + 1) = .ok (.iload_n 3, 1)) (d3 : decode code (pc + 1 + 1) = .ok (.iconst n, 1)) (d4 : decode code (pc + 1 + 1 + 1) = .ok (.iadd, 1)) (d5 : decode code (pc + 1 + 1 + 1 + 1) = .ok (.iaload, 1)) (hL : L[j]? = some (3, .int i)) (hn : Int32.ofInt n = v) (hin : vp_in (i + v) Ln) (h : x_Lj Ln xs N (pc + 1 + 1 + 1 + 1 + 1) L (.int (xs (i + v).toNatClampNeg) :: st) σ) : x_Lj Ln xs N pc L st σ := by
  intro p l e s m below meth c b G C H locs ls hW hS hl
  refine lv_aload_n (x := b) C.1.1 C.1.2.1 d1 rfl (lv_at hl 0 rfl) ?_
  refine lv_iload_n (i := 3) (x := i) C.1.1 C.1.2.1 d2 rfl (x_lat' hl hL) ?_
  refine lv_iconst C.1.1 C.1.2.1 d3 hn ?_
  refine lv_iadd C.1.1 C.1.2.1 d4 ?_
  exact va_sld C.1.1 C.1.2.1 C.1.2.2.2.2.2.2.1 C.1.2.2.2.2.2.2.2.1 (x_bA C) hS hin d5 (h p l e s m below meth c b G C H locs ls hW hS hl)
theorem L_sel {i : Int32} (j : Nat) (d1 : decode code pc = .ok (.aload_n 0, 1)) (d2 : decode code (pc + 1) = .ok (.iload_n 3, 1)) (d5 : decode code (pc + 1 + 1) = .ok (.iaload, 1)) (hL : L[j]? = some (3, .int i)) (hin : vp_in i Ln) (h : x_Lj Ln xs N (pc + 1 + 1 + 1) L (.int (xs i.toNatClampNeg) :: st) σ) : x_Lj Ln xs N pc L st σ := by
  intro p l e s m below meth c b G C H locs ls hW hS hl
  refine lv_aload_n (x := b) C.1.1 C.1.2.1 d1 rfl (lv_at hl 0 rfl) ?_
  refine lv_iload_n (i := 3) (x := i) C.1.1 C.1.2.1 d2 rfl (x_lat' hl hL) ?_
  exact va_sld C.1.1 C.1.2.1 C.1.2.2.2.2.2.2.1 C.1.2.2.2.2.2.2.2.1 (x_bA C) hS hin d5 (h p l e s m below meth c b G C H locs ls hW hS hl)
theorem L_head {i : Int32} (j : Nat) (d1 : decode code pc = .ok (.iload_n 3, 1)) (d2 : decode code (pc + 1) = .ok (.aload_n 0, 1)) (d3 : decode code (pc + 1 + 1) = .ok (.arraylength, 1)) (hL : L[j]? = some (3, .int i)) (h : x_Lj Ln xs N (pc + 1 + 1 + 1) L (.int (Int32.ofNat Ln) :: .int i :: st) σ) : x_Lj Ln xs N pc L st σ := by
  intro p l e s m below meth c b G C H locs ls hW hS hl
  refine lv_iload_n (i := 3) (x := i) C.1.1 C.1.2.1 d1 rfl (x_lat' hl hL) ?_
  refine lv_aload_n (x := b) C.1.1 C.1.2.1 d2 rfl (lv_at hl 0 rfl) ?_
  exact va_slen C.1.1 C.1.2.1 C.1.2.2.2.2.2.2.1 C.1.2.2.2.2.2.2.2.1 (x_bA C) hS d3 (h p l e s m below meth c b G C H locs ls hW hS hl)
theorem L_bipush {n : Int} {v : Int32} (hd : decode code pc = .ok (.bipush n, 2)) (hv : (Int8.ofInt n).toInt32 = v) (h : x_Lj Ln xs N (pc + 2) L (.int v :: st) σ) : x_Lj Ln xs N pc L st σ := by
  intro p l e s m below meth c b G C H locs ls hW hS hl
  exact lv_bipush C.1.1 C.1.2.1 hd hv (h p l e s m below meth c b G C H locs ls hW hS hl)
theorem L_isub {x y : Int32} (hd : decode code pc = .ok (.isub, 1)) (h : x_Lj Ln xs N (pc + 1) L (.int (x - y) :: st) σ) : x_Lj Ln xs N pc L (.int y :: .int x :: st) σ := by
  intro p l e s m below meth c b G C H locs ls hW hS hl
  exact lv_isub C.1.1 C.1.2.1 hd (h p l e s m below meth c b G C H locs ls hW hS hl)
theorem L_iand {x y : Int32} (hd : decode code pc = .ok (.iand, 1)) (h : x_Lj Ln xs N (pc + 1) L (.int (x &&& y) :: st) σ) : x_Lj Ln xs N pc L (.int y :: .int x :: st) σ := by
  intro p l e s m below meth c b G C H locs ls hW hS hl
  exact lv_iand C.1.1 C.1.2.1 hd (h p l e s m below meth c b G C H locs ls hW hS hl)
theorem L_gt {x y : Int32} {off : Int} (tgt : Nat) (hd : decode code pc = .ok (.if_icmp .gt off, 3)) (ht : (pc : Int) + off = (tgt : Int)) (kt : y < x → x_Lj Ln xs N tgt L st σ) (kf : ¬ y < x → x_Lj Ln xs N (pc + 3) L st σ) : x_Lj Ln xs N pc L (.int y :: .int x :: st) σ := by
  intro p l e s m below meth c b G C H locs ls hW hS hl
  exact lv_icmp_gt C.1.1 C.1.2.1 hd ht (fun q => kt q p l e s m below meth c b G C H locs ls hW hS hl) (fun q => kf q p l e s m below meth c b G C H locs ls hW hS hl)
theorem L_eq {x y : Int32} {off : Int} (tgt : Nat) (hd : decode code pc = .ok (.if_icmp .eq off, 3)) (ht : (pc : Int) + off = (tgt : Int)) (he : x = y) (kt : x_Lj Ln xs N tgt L st σ) : x_Lj Ln xs N pc L (.int y :: .int x :: st) σ := by
  intro p l e s m below meth c b G C H locs ls hW hS hl
  exact lv_icmp_eq C.1.1 C.1.2.1 hd ht (fun _ => kt p l e s m below meth c b G C H locs ls hW hS hl) (fun q => absurd he q)
theorem L_goto {off : Int} (tgt : Nat) (hd : decode code pc = .ok (.goto off, 3)) (ht : (pc : Int) + off = (tgt : Int)) (h : x_Lj Ln xs N tgt L st σ) : x_Lj Ln xs N pc L st σ := by
  intro p l e s m below meth c b G C H locs ls hW hS hl
  exact lv_goto C.1.1 C.1.2.1 hd ht (h p l e s m below meth c b G C H locs ls hW hS hl)
theorem L_switchIn {dflt lo hi : Int} {offs : Array Int} {len : Nat} {x : Int32} {off : Int} {tgt : Nat} (hd : decode code pc = .ok (.tableswitch dflt lo hi offs, len)) (h1 : ¬ x.toInt < lo) (h2 : ¬ hi < x.toInt) (ho : offs[(x.toInt - lo).toNat]? = some off) (ht : (pc : Int) + off = (tgt : Int)) (h : x_Lj Ln xs N tgt L st σ) : x_Lj Ln xs N pc L (.int x :: st) σ := by
  intro p l e s m below meth c b G C H locs ls hW hS hl
  exact lv_tableIn C.1.1 C.1.2.1 hd h1 h2 ho ht (h p l e s m below meth c b G C H locs ls hW hS hl)
theorem L_switchOut {dflt lo hi : Int} {offs : Array Int} {len : Nat} {x : Int32} {tgt : Nat} (hd : decode code pc = .ok (.tableswitch dflt lo hi offs, len)) (hx : x.toInt < lo ∨ hi < x.toInt) (ht : (pc : Int) + dflt = (tgt : Int)) (h : x_Lj Ln xs N tgt L st σ) : x_Lj Ln xs N pc L (.int x :: st) σ := by
  intro p l e s m below meth c b G C H locs ls hW hS hl
  exact lv_tableOut C.1.1 C.1.2.1 hd hx ht (h p l e s m below meth c b G C H locs ls hW hS hl)
/-- a store keeps the script's own place -/
theorem x_st1_b {i z b : Nat} {v w : Value} (hi : i ≠ 0) (hw : x_ad z v = w) (h : x_st1 i v L = L') {ls : Array Slot} (hl : lv_has ls 4 ((i, w) :: ((0, .ref b) :: L.map fun q => (q.1, x_ad z q.2)).filter (fun q => !(q.1 == i) && !(q.1 + 1 == i && q.2.category == 2)))) : lv_has ls 4 ((0, .ref b) :: L'.map fun q => (q.1, x_ad z q.2)) := by
  refine ⟨hl.1, hl.2.1, fun q hq => hl.2.2 q ?_⟩
  rw [← x_st1_map hw h] at hq
  rcases List.mem_cons.mp hq with rfl | hq
  · refine List.mem_cons_of_mem _ (List.mem_filter.mpr ⟨List.mem_cons_self, ?_⟩)
    have h1 : (0 == i) = false := by simp; omega
    simp [h1, Value.category]
  · rcases List.mem_cons.mp hq with rfl | hq
    · exact List.mem_cons_self
    · exact List.mem_cons_of_mem _ (List.mem_filter.mpr ⟨List.mem_cons_of_mem _ (List.mem_filter.mp hq).1, (List.mem_filter.mp hq).2⟩)
theorem L_istore {k : Fin 4} {x : Int32} (hk : (k : Nat) ≠ 0) (hd : decode code pc = .ok (.istore_n k, 1)) (hL : x_st1 k (.int x) L = L') (h : x_Lj Ln xs N (pc + 1) L' st σ) : x_Lj Ln xs N pc L (.int x :: st) σ := by
  intro p l e s m below meth c b G C H locs ls hW hS hl
  exact lv_istore_n C.1.1 C.1.2.1 hd rfl hl k.isLt rfl (fun ls' hl' => h p l e s m below meth c b G C H locs ls' hW hS (x_st1_b hk rfl hL hl'))
theorem L_astore {k : Fin 4} {x : Nat} (hk : (k : Nat) ≠ 0) (hd : decode code pc = .ok (.astore_n k, 1)) (hL : x_st1 k (.ref x) L = L') (h : x_Lj Ln xs N (pc + 1) L' st σ) : x_Lj Ln xs N pc L (.ref x :: st) σ := by
  intro p l e s m below meth c b G C H locs ls hW hS hl
  exact lv_astore_n C.1.1 C.1.2.1 hd rfl hl k.isLt rfl (fun ls' hl' => h p l e s m below meth c b G C H locs ls' hW hS (x_st1_b hk rfl hL hl'))
theorem L_iconst {n : Int} {v : Int32} (hd : decode code pc = .ok (.iconst n, 1)) (hv : Int32.ofInt n = v) (h : x_Lj Ln xs N (pc + 1) L (.int v :: st) σ) : x_Lj Ln xs N pc L st σ := by
  intro p l e s m below meth c b G C H locs ls hW hS hl
  exact lv_iconst C.1.1 C.1.2.1 hd hv (h p l e s m below meth c b G C H locs ls hW hS hl)
theorem L_dup {v : Value} (hd : decode code pc = .ok (.dup, 1)) (hv : v.category = 1) (h : x_Lj Ln xs N (pc + 1) L (v :: v :: st) σ) : x_Lj Ln xs N pc L (v :: st) σ := by
  intro p l e s m below meth c b G C H locs ls hW hS hl
  exact lv_dup C.1.1 C.1.2.1 hd (by rw [x_ad_cat]; exact hv) (h p l e s m below meth c b G C H locs ls hW hS hl)
theorem L_iinc {i : Nat} {n : Int} {x v : Int32} (j : Nat) (hi : i ≠ 0) (hd : decode code pc = .ok (.iinc i n, 3)) (hj : L[j]? = some (i, .int x)) (hv : x + Int32.ofInt n = v) (hn : i < 4) (hL : x_st1 i (.int v) L = L') (h : x_Lj Ln xs N (pc + 3) L' st σ) : x_Lj Ln xs N pc L st σ := by
  intro p l e s m below meth c b G C H locs ls hW hS hl
  exact lv_iinc C.1.1 C.1.2.1 hd hl (k := j + 1) (by rw [List.getElem?_cons_succ, List.getElem?_map, hj]; rfl) hv hn rfl (fun ls' hl' => h p l e s m below meth c b G C H locs ls' hW hS (x_st1_b hi rfl hL hl'))
theorem L_sub (ks : List Nat) (hL : ks.filterMap (fun k => L[k]?) = L') (h : x_Lj Ln xs N pc L' st σ) : x_Lj Ln xs N pc L st σ := by
  intro p l e s m below meth c b G C H locs ls hW hS hl
  refine h p l e s m below meth c b G C H locs ls hW hS ⟨hl.1, hl.2.1, fun q hq => hl.2.2 q ?_⟩
  rcases List.mem_cons.mp hq with rfl | hq
  · exact List.mem_cons_self
  · refine List.mem_cons_of_mem _ ?_
    subst hL
    obtain ⟨a, ha, rfl⟩ := List.mem_map.mp hq
    obtain ⟨k, -, hk⟩ := List.mem_filterMap.mp ha
    exact List.mem_map.mpr ⟨a, List.mem_of_getElem? hk, rfl⟩
theorem L_end (h1 : N ≤ 600000) (h2 : x_sl N ≤ 7302250) (d1 : decode code pc = .ok (.iconst 1, 1)) (d2 : decode code (pc + 1) = .ok (.ireturn, 1)) : x_Lj Ln xs N pc L [] σ := by
  intro p l e s m below meth c b G C H locs ls hW hS hl
  refine lv_iconst (v := 1) C.1.1 C.1.2.1 d1 (by decide) ?_
  refine va_forget (fun q hq => by have h3 := hS.2.2 q hq; have h4 := C.2.2; have h3 : G.2.2.1 ≤ q.base := h3; omega) ?_
  refine W.widen (k := 600000) (n := 7302250) h1 h2 ?_
  exact lw_ret C.1.1 C.1.2.1 C.1.2.2.1 C.1.2.2.2.2.2.2.2.2.1 d2
theorem x_goodT {μ' : x_M} (h : Cond.code μ'.1 μ'.2.1 μ'.2.2.1 μ'.2.2.2.1 ∈ x_tb) : GoodIn x_tb (x_w μ') := by
  intro w hw
  have h1 : w ∈ x_tb := by
    rcases List.mem_cons.mp hw with q | q
    · rw [q]; exact h
    · exact q
  exact ⟨h1, good_of_word (List.mem_filter.mp h1).2⟩
theorem x_sizeL {p : Program} {l : Launch} {e : Env} {s T : State} {m : MethodId} {below : List Frame} {meth : Method} {c : Code} {b k : Nat} {G : x_G} {H : Heap} {locs : List Loc} (C : x_Lc p s m meth c b Ln xs G) (X : Stand p l e room_1 s m #[Value.ref b] below meth c T locs N k) (hT : T.heap = H) (hW : x_W G N σ H) (hS : va_S (x_A G) s.heap H locs) : H.size = G.2.2.1 + N := by
  have h1 : T.heap.size ≤ s.heap.size + N := X.same.2.2.1
  have h2 : s.heap.size = G.2.2.1 := C.2.2
  rw [hT, h2] at h1
  have h3 := hS.1
  rw [h2] at h3
  cases N with
  | zero => omega
  | succ n =>
    have h4 := (hW n _ (x_ws_at (Nat.lt_succ_self n))).lt
    have h4 : G.2.2.1 + n < H.size := h4
    omega
theorem x_enterL {p : Program} {s : State} {m : MethodId} {meth : Method} {c : Code} {b : Nat} {G : x_G} {H : Heap} {locs : List Loc} (C : x_Lc p s m meth c b Ln xs G) (hsz : H.size = G.2.2.1 + N) (hW : x_W G N σ H) (hS : va_S (x_A G) s.heap H locs) {U : State} (hU : U.heap = H) (hV : s.WarmedH U.vm) : U.heap.size = G.2.2.1 + N ∧ x_W G N σ U.heap ∧ x_K G U := by
  refine ⟨by rw [hU]; exact hsz, by rw [hU]; exact hW, va_K.moved hV.alike C.2.1.1, x_Z.warm hV (by rw [hU]; exact hS.1) (fun a h1 h2 => ?_) C.2.1.2⟩
  rw [hU]
  exact hS.2.1 a h1 h2
set_option maxHeartbeats 4000000 in
theorem L_callV {μ' : x_M} {o t n' n i : Nat} {q : vw_C} {vs : List Value} (hd : decode code pc = .ok (.invokevirtual i, 3)) (hl' : Cond.methodLink "NoonOnABarrowLaw" i μ'.1 ∈ x_tb) (hk : x_vok μ' n) (hs : x_sh o = (t, n')) (ho : o < N) (hc : vwCl[t]? = some q) (hC : μ'.1.cls = q.1) (hst : st' = vs.reverse ++ .ref o :: st) (hn : vs.length = n) (hcat : (st.map fun v => v.category).sum ≤ 8) (hN : N ≤ 600000) (hNs : x_sl N ≤ 7302250)
    (h : x_Mt 2000 μ' N (.ref o :: vs) σ (fun σ' v => x_Lj Ln xs N (pc + 3) L (v.toList ++ st) σ')) : x_Lj Ln xs N pc L st' σ := by
  intro p l e s m below meth c b G C H locs ls hW hS hl T hT Y
  have hsz := x_sizeL C Y hT hW hS
  obtain ⟨⟨ki, kc, kd, km⟩, kin, ksel, k0⟩ := hk
  have e1 : μ'.2.2.2.2.1 = 0 := by rw [k0]
  have e2 : μ'.2.2.2.2.2 = 0 := by rw [k0]
  have hrun := va_runV (H := H) (locs := locs) (cells := N) (slots := x_sl N) (R := room_1) (below := below) (meth := meth) (b := G.2.2.1 + o) (As := vs.map (x_ad G.2.2.1)) (rest := st.map (x_ad G.2.2.1)) (g := F0 m pc ls (st'.map (x_ad G.2.2.1))) (C := q.1) (index := i) (n := n) (nL := 4) (e := e) (own := "NoonOnABarrowLaw") ⟨C.1.1, C.1.2.1, C.1.2.2.2.1, C.1.2.2.2.2.1, x_lwd C⟩ (h l G)
    (cwV n (x_lwd C) (by
      intro w hw
      unfold wsV at hw
      rcases List.mem_append.mp hw with hw | hw
      · rw [← hC] at hw
        have hw' : w ∈ x_tb := by
          simp only [List.mem_cons, List.not_mem_nil, or_false] at hw
          rcases hw with rfl | rfl | rfl | rfl
          · exact hl'
          · exact kin
          · exact ksel
          · exact ki
        exact ⟨hw', good_of_word (List.mem_filter.mp hw').2⟩
      · exact x_goodT kc w hw) rfl rfl rfl ⟨hC, kd⟩ ⟨by show 2000 + 1 ≤ 2048; omega, by show 8 + (μ'.2.2.1 + 11) + 40 * 2000 ≤ 84000; omega⟩)
    ⟨x_blind, va_recv C.2.1.1 hW hc (by rw [x_ws_at ho, x_el_o hs (x_t13 hc)]), fun U hU hV => ⟨rfl, x_enterL C hsz hW hS hU hV⟩⟩
    rfl (by rw [List.length_map]; exact hn) hl.1 (by rw [hst]; simp [x_ad]) (lv_room (by rw [x_cats]; exact hcat)) hd ⟨by show N + _ ≤ 600000; omega, by show x_sl N + _ ≤ 7302250; omega⟩
  refine x_run hrun hS (fun v σ' H1 locs1 hK hW1 hS1 => ?_) T hT Y
  rw [e1] at hW1
  rw [e1, e2, x_toL]
  exact hK p l e s m below meth c b G C H1 locs1 ls hW1 hS1 hl
set_option maxHeartbeats 4000000 in
theorem L_callI {y : MethodName} {cc : ByteArray} {mL mc ms n i o : Nat} {vs : List Value} {μ' : x_M} (hμ : μ' = (y, cc, mL, none, mc, ms)) (hd : decode code pc = .ok (.invokespecial i, 3)) (hl' : Cond.methodLink "NoonOnABarrowLaw" i μ'.1 ∈ x_tb) (hk : x_cok μ' n) (kin : Cond.instanceMethod μ'.1 ∈ x_tb) (hnm : μ'.1.name = "<init>") (hst : st' = vs.reverse ++ .ref o :: st) (hn : vs.length = n) (hcat : (st.map fun v => v.category).sum ≤ 8) (hb : N + mc ≤ 600000) (hbs : x_sl N + ms ≤ 7302250) (hsl : x_sl (N + mc) = x_sl N + ms)
    (h : x_Mt 2000 μ' N (.ref o :: vs) σ (fun σ' v => x_Lj Ln xs (N + mc) (pc + 3) L (v.toList ++ st) σ')) : x_Lj Ln xs N pc L st' σ := by
  intro p l e s m below meth c b G C H locs ls hW hS hl T hT Y
  have hsz := x_sizeL C Y hT hW hS
  subst hμ
  obtain ⟨ki, kc, kd, km⟩ := hk
  have hrun := va_runI (H := H) (locs := locs) (cells := N) (slots := x_sl N) (R := room_1) (below := below) (meth := meth) (b := G.2.2.1 + o) (As := vs.map (x_ad G.2.2.1)) (rest := st.map (x_ad G.2.2.1)) (g := F0 m pc ls (st'.map (x_ad G.2.2.1))) (index := i) (n := n) (nL := 4) (e := e) (own := "NoonOnABarrowLaw") ⟨C.1.1, C.1.2.1, C.1.2.2.2.1, C.1.2.2.2.2.1, x_lwd C⟩ (h l G)
    (cwI n (x_lwd C) (x_goodT kc) rfl rfl rfl (x_lwd C _ ki) (x_lwd C _ hl') (x_lwd C _ kin) hnm kd ⟨by show 2000 + 1 ≤ 2048; omega, by have km : mL ≤ 21 := km; show 8 + (mL + 11) + 40 * 2000 ≤ 84000; omega⟩)
    ⟨x_blind, fun U hU hV => ⟨rfl, x_enterL C hsz hW hS hU hV⟩⟩
    rfl (by rw [List.length_map]; exact hn) hl.1 (by rw [hst]; simp [x_ad]) (lv_room (by rw [x_cats]; exact hcat)) hd ⟨by show N + mc ≤ 600000; omega, by show x_sl N + ms ≤ 7302250; omega⟩
  refine x_run hrun hS (fun v σ' H1 locs1 hK hW1 hS1 => ?_) T hT Y
  rw [x_toL]
  have k := hK p l e s m below meth c b G C H1 locs1 ls hW1 hS1 hl
  rw [hsl] at k
  exact k
set_option maxHeartbeats 4000000 in
theorem L_new {t n i : Nat} {C0 : String} {T : u_T} (hd : decode code pc = .ok (.new i, 3)) (hw : Cond.classLink "NoonOnABarrowLaw" i C0 ∈ x_tb) (hi : Cond.instantiable C0 n ∈ x_tb) (hii : Cond.initialized C0 ∈ x_tb) (hs : x_sh N = (t, n)) (hc : vwCl[t]? = some (C0, T, n)) (hb : N + 1 ≤ 600000) (hbs : x_sl N + n ≤ 7302250)
    (h : x_Lj Ln xs (N + 1) (pc + 3) L (.ref N :: st) (x_nw σ N)) : x_Lj Ln xs N pc L st σ := by
  intro p l e s m below meth c b G C H locs ls hW hS hl
  have hsl : x_sl (N + 1) = x_sl N + n := by show x_sl N + (x_sh N).2 = _; rw [hs]
  refine va_new (Ts := x_tb) (ci := t) (fs := (List.range n).map (fun k => x_ad G.2.2.1 (x_av (x_ty t k) (x_nw σ N) N k))) C.1.1 C.1.2.1 (x_lwd C) (x_inX hc) (x_ty t) (x_tyX hc) C.1.2.2.2.2.1 (x_lwd C _ hw) (x_lwd C _ hi) (x_lwd C _ hii) C.2.1.1 hW x_D hS (fun q hq => by show G.2.2.1 ≤ q; have := C.2.2; omega) hc ?_ (by show N + 1 ≤ 600000; omega) (by show x_sl N + n ≤ 7302250; omega) hd ?_
  · intro j hj
    show _ = vp_V _ j
    unfold vp_V
    rw [List.getD_eq_getElem?_getD, List.getElem?_map, List.getElem?_range hj]
    exact (x_dflt (x_tyok hc j hj)).symm
  · intro q H1 hP1 hD1 hS1 T0 hT0 Y
    have hq : q = G.2.2.1 + N := by
      have h1 : T0.heap.size ≤ s.heap.size + (N + 1) := Y.same.2.2.1
      have h2 : s.heap.size = G.2.2.1 := C.2.2
      rw [hT0, h2] at h1
      have hlen : (x_ws G N σ).length = N := by unfold x_ws; rw [List.length_map, List.length_range]
      have hq : (x_ws G N σ ++ [(q, .inr (t, (List.range n).map (fun k => x_ad G.2.2.1 (x_av (x_ty t k) (x_nw σ N) N k))))])[N]? = some (q, .inr (t, (List.range n).map (fun k => x_ad G.2.2.1 (x_av (x_ty t k) (x_nw σ N) N k)))) := by rw [List.getElem?_append_right (by omega), hlen, Nat.sub_self]; rfl
      have h3 : q < H1.size := (hP1 N _ hq).lt
      have h4 : G.2.2.1 ≤ q := hD1.2 N _ hq
      rcases Nat.lt_or_ge q (G.2.2.1 + N) with h5 | h5
      · exfalso
        have h6 : q - G.2.2.1 < N := by omega
        have h7 : (x_ws G N σ ++ [(q, .inr (t, (List.range n).map (fun k => x_ad G.2.2.1 (x_av (x_ty t k) (x_nw σ N) N k))))])[q - G.2.2.1]? = some (G.2.2.1 + (q - G.2.2.1), x_el G σ (q - G.2.2.1)) := by rw [List.getElem?_append_left (by omega)]; exact x_ws_at h6
        have h8 := hD1.1 _ _ _ _ h7 hq (by show G.2.2.1 + (q - G.2.2.1) = q; omega)
        omega
      · omega
    subst hq
    rw [x_ws_new (σ' := x_nw σ N) (by rw [x_el_o hs (x_t13 hc)]) (fun a ha => x_el_nw (by omega))] at hP1
    have k := h p l e s m below meth c b G C H1 locs ls hP1 hS1 hl
    rw [hsl] at k
    exact k T0 hT0 Y
theorem x_sl376 : x_sl 376 ≤ 7302250 := by decide +kernel
theorem L_callF {μ' : x_M} {o t n' n i : Nat} {q : vw_C} {vs : List Value} {τ : x_T} (hd : decode code pc = .ok (.invokevirtual i, 3)) (hl' : Cond.methodLink "NoonOnABarrowLaw" i μ'.1 ∈ x_tb) (hk : x_vok μ' n) (hs : x_sh o = (t, n')) (hc : vwCl[t]? = some q) (hC : μ'.1.cls = q.1) (hst : st' = vs.reverse ++ .ref o :: st) (hn : vs.length = n) (hcat : (st.map fun v => v.category).sum ≤ 8)
    (h : x_CI 2000 μ' (.ref o :: vs) τ (fun τ' v => x_Lj Ln xs 376 (pc + 3) L (.int v :: st) (x_fu τ'))) : x_Lj Ln xs 376 pc L st' (x_fu τ) :=
  L_callV hd hl' hk hs (x_sh_lt hs (by have := x_t13 hc; omega)) hc hC hst hn hcat (by omega) x_sl376 (x_Mt.mono h (fun σ v ⟨τ', e, u, e1, e2⟩ => by subst e; subst e1; exact e2))
end XL
