section XO
variable {d : Nat} {μ : x_M} {N0 : Nat} {Q : x_S → Option Value → Prop} {N pc : Nat} {L L' : List (Nat × Value)} {st : List Value} {σ : x_S}
theorem x_lat {ls : Array Slot} {nL z : Nat} (hl : lv_has ls nL (L.map fun q => (q.1, x_ad z q.2))) {j i : Nat} {v : Value} (h : L[j]? = some (i, v)) : ls[i]? = some (.val (x_ad z v)) := lv_at hl j (by rw [List.getElem?_map, h]; rfl)
def x_st1 (i : Nat) (v : Value) (L : List (Nat × Value)) : List (Nat × Value) := (i, v) :: L.filter (fun q => !(q.1 == i) && !(q.1 + 1 == i && q.2.category == 2))
def x_st2 (i : Nat) (v : Value) (L : List (Nat × Value)) : List (Nat × Value) := (i, v) :: L.filter (fun q => !(q.1 == i) && (!(q.1 == i + 1) && !(q.1 + 1 == i && q.2.category == 2)))
theorem x_st1_map {i z : Nat} {v w : Value} (hw : x_ad z v = w) (h : x_st1 i v L = L') : (i, w) :: (L.map fun q => (q.1, x_ad z q.2)).filter (fun q => !(q.1 == i) && !(q.1 + 1 == i && q.2.category == 2)) = L'.map fun q => (q.1, x_ad z q.2) := by
  subst h; subst hw
  unfold x_st1
  rw [List.map_cons, List.filter_map]
  congr 2
  apply List.filter_congr
  intro q _
  simp only [Function.comp, x_ad_cat]
theorem x_st2_map {i z : Nat} {v w : Value} (hw : x_ad z v = w) (h : x_st2 i v L = L') : (i, w) :: (L.map fun q => (q.1, x_ad z q.2)).filter (fun q => !(q.1 == i) && (!(q.1 == i + 1) && !(q.1 + 1 == i && q.2.category == 2))) = L'.map fun q => (q.1, x_ad z q.2) := by
  subst h; subst hw
  unfold x_st2
  rw [List.map_cons, List.filter_map]
  congr 2
  apply List.filter_congr
  intro q _
  simp only [Function.comp, x_ad_cat]
theorem o_iload_n {k : Fin 4} {x : Int32} (j : Nat) (hd : decode μ.2.1 pc = .ok (.iload_n k, 1)) (hL : L[j]? = some ((k : Nat), .int x)) (h : x_Wg d μ N0 Q N (pc + 1) L (.int x :: st) σ) : x_Wg d μ N0 Q N pc L st σ := by
  intro l G p e s m args below meth c C h0 h1 h2 H locs ls hW hS hl
  exact lv_iload_n C.1 C.2.1 hd rfl (x_lat hl hL) (h l G p e s m args below meth c C h0 h1 h2 H locs ls hW hS hl)
theorem o_iload {k : Nat} {x : Int32} (j : Nat) (hd : decode μ.2.1 pc = .ok (.iload k, 2)) (hL : L[j]? = some (k, .int x)) (h : x_Wg d μ N0 Q N (pc + 2) L (.int x :: st) σ) : x_Wg d μ N0 Q N pc L st σ := by
  intro l G p e s m args below meth c C h0 h1 h2 H locs ls hW hS hl
  exact lv_iload C.1 C.2.1 hd (x_lat hl hL) (h l G p e s m args below meth c C h0 h1 h2 H locs ls hW hS hl)
theorem o_istore_n {k : Fin 4} {x : Int32} (hd : decode μ.2.1 pc = .ok (.istore_n k, 1)) (hn : (k : Nat) < μ.2.2.1) (hL : x_st1 k (.int x) L = L') (h : x_Wg d μ N0 Q N (pc + 1) L' st σ) : x_Wg d μ N0 Q N pc L (.int x :: st) σ := by
  intro l G p e s m args below meth c C h0 h1 h2 H locs ls hW hS hl
  exact lv_istore_n C.1 C.2.1 hd rfl hl hn (x_st1_map rfl hL) (fun ls' hl' => h l G p e s m args below meth c C h0 h1 h2 H locs ls' hW hS hl')
theorem o_istore {k : Nat} {x : Int32} (hd : decode μ.2.1 pc = .ok (.istore k, 2)) (hn : (k : Nat) < μ.2.2.1) (hL : x_st1 k (.int x) L = L') (h : x_Wg d μ N0 Q N (pc + 2) L' st σ) : x_Wg d μ N0 Q N pc L (.int x :: st) σ := by
  intro l G p e s m args below meth c C h0 h1 h2 H locs ls hW hS hl
  exact lv_istore C.1 C.2.1 hd hl hn (x_st1_map rfl hL) (fun ls' hl' => h l G p e s m args below meth c C h0 h1 h2 H locs ls' hW hS hl')
theorem o_lload_n {k : Fin 4} {x : Int64} (j : Nat) (hd : decode μ.2.1 pc = .ok (.lload_n k, 1)) (hL : L[j]? = some ((k : Nat), .long x)) (h : x_Wg d μ N0 Q N (pc + 1) L (.long x :: st) σ) : x_Wg d μ N0 Q N pc L st σ := by
  intro l G p e s m args below meth c C h0 h1 h2 H locs ls hW hS hl
  exact lv_lload_n C.1 C.2.1 hd rfl (x_lat hl hL) (h l G p e s m args below meth c C h0 h1 h2 H locs ls hW hS hl)
theorem o_lload {k : Nat} {x : Int64} (j : Nat) (hd : decode μ.2.1 pc = .ok (.lload k, 2)) (hL : L[j]? = some (k, .long x)) (h : x_Wg d μ N0 Q N (pc + 2) L (.long x :: st) σ) : x_Wg d μ N0 Q N pc L st σ := by
  intro l G p e s m args below meth c C h0 h1 h2 H locs ls hW hS hl
  exact lv_lload C.1 C.2.1 hd (x_lat hl hL) (h l G p e s m args below meth c C h0 h1 h2 H locs ls hW hS hl)
theorem o_lstore_n {k : Fin 4} {x : Int64} (hd : decode μ.2.1 pc = .ok (.lstore_n k, 1)) (hn : (k : Nat) + 1 < μ.2.2.1) (hL : x_st2 k (.long x) L = L') (h : x_Wg d μ N0 Q N (pc + 1) L' st σ) : x_Wg d μ N0 Q N pc L (.long x :: st) σ := by
  intro l G p e s m args below meth c C h0 h1 h2 H locs ls hW hS hl
  exact lv_lstore_n C.1 C.2.1 hd rfl hl hn (x_st2_map rfl hL) (fun ls' hl' => h l G p e s m args below meth c C h0 h1 h2 H locs ls' hW hS hl')
theorem o_lstore {k : Nat} {x : Int64} (hd : decode μ.2.1 pc = .ok (.lstore k, 2)) (hn : (k : Nat) + 1 < μ.2.2.1) (hL : x_st2 k (.long x) L = L') (h : x_Wg d μ N0 Q N (pc + 2) L' st σ) : x_Wg d μ N0 Q N pc L (.long x :: st) σ := by
  intro l G p e s m args below meth c C h0 h1 h2 H locs ls hW hS hl
  exact lv_lstore C.1 C.2.1 hd hl hn (x_st2_map rfl hL) (fun ls' hl' => h l G p e s m args below meth c C h0 h1 h2 H locs ls' hW hS hl')
theorem o_aload_n {k : Fin 4} {x : Nat} (j : Nat) (hd : decode μ.2.1 pc = .ok (.aload_n k, 1)) (hL : L[j]? = some ((k : Nat), .ref x)) (h : x_Wg d μ N0 Q N (pc + 1) L (.ref x :: st) σ) : x_Wg d μ N0 Q N pc L st σ := by
  intro l G p e s m args below meth c C h0 h1 h2 H locs ls hW hS hl
  exact lv_aload_n C.1 C.2.1 hd rfl (x_lat hl hL) (h l G p e s m args below meth c C h0 h1 h2 H locs ls hW hS hl)
theorem o_aload {k : Nat} {x : Nat} (j : Nat) (hd : decode μ.2.1 pc = .ok (.aload k, 2)) (hL : L[j]? = some (k, .ref x)) (h : x_Wg d μ N0 Q N (pc + 2) L (.ref x :: st) σ) : x_Wg d μ N0 Q N pc L st σ := by
  intro l G p e s m args below meth c C h0 h1 h2 H locs ls hW hS hl
  exact lv_aload C.1 C.2.1 hd (x_lat hl hL) (h l G p e s m args below meth c C h0 h1 h2 H locs ls hW hS hl)
theorem o_astore_n {k : Fin 4} {x : Nat} (hd : decode μ.2.1 pc = .ok (.astore_n k, 1)) (hn : (k : Nat) < μ.2.2.1) (hL : x_st1 k (.ref x) L = L') (h : x_Wg d μ N0 Q N (pc + 1) L' st σ) : x_Wg d μ N0 Q N pc L (.ref x :: st) σ := by
  intro l G p e s m args below meth c C h0 h1 h2 H locs ls hW hS hl
  exact lv_astore_n C.1 C.2.1 hd rfl hl hn (x_st1_map rfl hL) (fun ls' hl' => h l G p e s m args below meth c C h0 h1 h2 H locs ls' hW hS hl')
theorem o_astore {k : Nat} {x : Nat} (hd : decode μ.2.1 pc = .ok (.astore k, 2)) (hn : (k : Nat) < μ.2.2.1) (hL : x_st1 k (.ref x) L = L') (h : x_Wg d μ N0 Q N (pc + 2) L' st σ) : x_Wg d μ N0 Q N pc L (.ref x :: st) σ := by
  intro l G p e s m args below meth c C h0 h1 h2 H locs ls hW hS hl
  exact lv_astore C.1 C.2.1 hd hl hn (x_st1_map rfl hL) (fun ls' hl' => h l G p e s m args below meth c C h0 h1 h2 H locs ls' hW hS hl')
theorem o_aload_nN {k : Fin 4} (j : Nat) (hd : decode μ.2.1 pc = .ok (.aload_n k, 1)) (hL : L[j]? = some ((k : Nat), .null)) (h : x_Wg d μ N0 Q N (pc + 1) L (.null :: st) σ) : x_Wg d μ N0 Q N pc L st σ := by
  intro l G p e s m args below meth c C h0 h1 h2 H locs ls hW hS hl
  exact lv_aload_nN C.1 C.2.1 hd rfl (x_lat hl hL) (h l G p e s m args below meth c C h0 h1 h2 H locs ls hW hS hl)
theorem o_astore_nN {k : Fin 4} (hd : decode μ.2.1 pc = .ok (.astore_n k, 1)) (hn : (k : Nat) < μ.2.2.1) (hL : x_st1 k .null L = L') (h : x_Wg d μ N0 Q N (pc + 1) L' st σ) : x_Wg d μ N0 Q N pc L (.null :: st) σ := by
  intro l G p e s m args below meth c C h0 h1 h2 H locs ls hW hS hl
  exact lv_astore_nN C.1 C.2.1 hd rfl hl hn (x_st1_map rfl hL) (fun ls' hl' => h l G p e s m args below meth c C h0 h1 h2 H locs ls' hW hS hl')
theorem o_aload_nR {k : Fin 4} {r : Option Nat} (j : Nat) (hd : decode μ.2.1 pc = .ok (.aload_n k, 1)) (hL : L[j]? = some ((k : Nat), x_rf r)) (h : x_Wg d μ N0 Q N (pc + 1) L (x_rf r :: st) σ) : x_Wg d μ N0 Q N pc L st σ := by
  cases r with
  | none => exact o_aload_nN j hd hL h
  | some c => exact o_aload_n j hd hL h
theorem o_astore_nR {k : Fin 4} {r : Option Nat} (hd : decode μ.2.1 pc = .ok (.astore_n k, 1)) (hn : (k : Nat) < μ.2.2.1) (hL : x_st1 k (x_rf r) L = L') (h : x_Wg d μ N0 Q N (pc + 1) L' st σ) : x_Wg d μ N0 Q N pc L (x_rf r :: st) σ := by
  cases r with
  | none => exact o_astore_nN hd hn hL h
  | some c => exact o_astore_n hd hn hL h
theorem o_iconst {n : Int} {v : Int32} (hd : decode μ.2.1 pc = .ok (.iconst n, 1)) (hv : Int32.ofInt n = v) (h : x_Wg d μ N0 Q N (pc + 1) L (.int v :: st) σ) : x_Wg d μ N0 Q N pc L st σ := by
  intro l G p e s m args below meth c C h0 h1 h2 H locs ls hW hS hl
  exact lv_iconst C.1 C.2.1 hd hv (h l G p e s m args below meth c C h0 h1 h2 H locs ls hW hS hl)
theorem o_bipush {n : Int} {v : Int32} (hd : decode μ.2.1 pc = .ok (.bipush n, 2)) (hv : (Int8.ofInt n).toInt32 = v) (h : x_Wg d μ N0 Q N (pc + 2) L (.int v :: st) σ) : x_Wg d μ N0 Q N pc L st σ := by
  intro l G p e s m args below meth c C h0 h1 h2 H locs ls hW hS hl
  exact lv_bipush C.1 C.2.1 hd hv (h l G p e s m args below meth c C h0 h1 h2 H locs ls hW hS hl)
theorem o_sipush {n : Int} {v : Int32} (hd : decode μ.2.1 pc = .ok (.sipush n, 3)) (hv : (Int16.ofInt n).toInt32 = v) (h : x_Wg d μ N0 Q N (pc + 3) L (.int v :: st) σ) : x_Wg d μ N0 Q N pc L st σ := by
  intro l G p e s m args below meth c C h0 h1 h2 H locs ls hW hS hl
  exact lv_sipush C.1 C.2.1 hd hv (h l G p e s m args below meth c C h0 h1 h2 H locs ls hW hS hl)
theorem o_lconst {n : Fin 2} {v : Int64} (hd : decode μ.2.1 pc = .ok (.lconst n, 1)) (hv : Int64.ofNat (n : Nat) = v) (h : x_Wg d μ N0 Q N (pc + 1) L (.long v :: st) σ) : x_Wg d μ N0 Q N pc L st σ := by
  intro l G p e s m args below meth c C h0 h1 h2 H locs ls hW hS hl
  exact lv_lconst C.1 C.2.1 hd hv (h l G p e s m args below meth c C h0 h1 h2 H locs ls hW hS hl)
theorem o_null (hd : decode μ.2.1 pc = .ok (.aconst_null, 1)) (h : x_Wg d μ N0 Q N (pc + 1) L (.null :: st) σ) : x_Wg d μ N0 Q N pc L st σ := by
  intro l G p e s m args below meth c C h0 h1 h2 H locs ls hW hS hl
  exact lv_null C.1 C.2.1 hd (h l G p e s m args below meth c C h0 h1 h2 H locs ls hW hS hl)
theorem x_word {l : Launch} {G : x_G} {p : Program} {e : Env} {s : State} {m : MethodId} {args : Array Value} {meth : Method} {c : Code} (C : x_Cx l G p e s m args meth c μ N0) {w : Cond} (h : w ∈ x_tb) : w.before args s = true := C.2.2.2.2.2.2.2.1 w (List.mem_cons_of_mem _ h)
theorem o_ldc {i : Nat} {v : Int32} (hd : decode μ.2.1 pc = .ok (.ldc i, 2)) (hw : Cond.constant μ.1.cls i v ∈ x_tb) (h : x_Wg d μ N0 Q N (pc + 2) L (.int v :: st) σ) : x_Wg d μ N0 Q N pc L st σ := by
  intro l G p e s m args below meth c C h0 h1 h2 H locs ls hW hS hl
  exact lv_ldc C.1 C.2.1 C.2.2.2.2.1 (x_word C hw) hd (h l G p e s m args below meth c C h0 h1 h2 H locs ls hW hS hl)
theorem o_ldcw {i : Nat} {v : Int32} (hd : decode μ.2.1 pc = .ok (.ldc_w i, 3)) (hw : Cond.constant μ.1.cls i v ∈ x_tb) (h : x_Wg d μ N0 Q N (pc + 3) L (.int v :: st) σ) : x_Wg d μ N0 Q N pc L st σ := by
  intro l G p e s m args below meth c C h0 h1 h2 H locs ls hW hS hl
  exact lv_ldcw C.1 C.2.1 C.2.2.2.2.1 (x_word C hw) hd (h l G p e s m args below meth c C h0 h1 h2 H locs ls hW hS hl)
theorem o_ldc2 {i : Nat} {v : Int64} (hd : decode μ.2.1 pc = .ok (.ldc2_w i, 3)) (hw : Cond.constantLong μ.1.cls i v ∈ x_tb) (h : x_Wg d μ N0 Q N (pc + 3) L (.long v :: st) σ) : x_Wg d μ N0 Q N pc L st σ := by
  intro l G p e s m args below meth c C h0 h1 h2 H locs ls hW hS hl
  exact lv_ldc2 C.1 C.2.1 C.2.2.2.2.1 (x_word C hw) hd (h l G p e s m args below meth c C h0 h1 h2 H locs ls hW hS hl)
theorem o_iadd {x y : Int32} (hd : decode μ.2.1 pc = .ok (.iadd, 1)) (h : x_Wg d μ N0 Q N (pc + 1) L (.int (x + y) :: st) σ) : x_Wg d μ N0 Q N pc L (.int y :: .int x :: st) σ := by
  intro l G p e s m args below meth c C h0 h1 h2 H locs ls hW hS hl
  exact lv_iadd C.1 C.2.1 hd (h l G p e s m args below meth c C h0 h1 h2 H locs ls hW hS hl)
theorem o_isub {x y : Int32} (hd : decode μ.2.1 pc = .ok (.isub, 1)) (h : x_Wg d μ N0 Q N (pc + 1) L (.int (x - y) :: st) σ) : x_Wg d μ N0 Q N pc L (.int y :: .int x :: st) σ := by
  intro l G p e s m args below meth c C h0 h1 h2 H locs ls hW hS hl
  exact lv_isub C.1 C.2.1 hd (h l G p e s m args below meth c C h0 h1 h2 H locs ls hW hS hl)
theorem o_imul {x y : Int32} (hd : decode μ.2.1 pc = .ok (.imul, 1)) (h : x_Wg d μ N0 Q N (pc + 1) L (.int (x * y) :: st) σ) : x_Wg d μ N0 Q N pc L (.int y :: .int x :: st) σ := by
  intro l G p e s m args below meth c C h0 h1 h2 H locs ls hW hS hl
  exact lv_imul C.1 C.2.1 hd (h l G p e s m args below meth c C h0 h1 h2 H locs ls hW hS hl)
theorem o_iand {x y : Int32} (hd : decode μ.2.1 pc = .ok (.iand, 1)) (h : x_Wg d μ N0 Q N (pc + 1) L (.int (x &&& y) :: st) σ) : x_Wg d μ N0 Q N pc L (.int y :: .int x :: st) σ := by
  intro l G p e s m args below meth c C h0 h1 h2 H locs ls hW hS hl
  exact lv_iand C.1 C.2.1 hd (h l G p e s m args below meth c C h0 h1 h2 H locs ls hW hS hl)
theorem o_ior {x y : Int32} (hd : decode μ.2.1 pc = .ok (.ior, 1)) (h : x_Wg d μ N0 Q N (pc + 1) L (.int (x ||| y) :: st) σ) : x_Wg d μ N0 Q N pc L (.int y :: .int x :: st) σ := by
  intro l G p e s m args below meth c C h0 h1 h2 H locs ls hW hS hl
  exact lv_ior C.1 C.2.1 hd (h l G p e s m args below meth c C h0 h1 h2 H locs ls hW hS hl)
theorem o_ixor {x y : Int32} (hd : decode μ.2.1 pc = .ok (.ixor, 1)) (h : x_Wg d μ N0 Q N (pc + 1) L (.int (x ^^^ y) :: st) σ) : x_Wg d μ N0 Q N pc L (.int y :: .int x :: st) σ := by
  intro l G p e s m args below meth c C h0 h1 h2 H locs ls hW hS hl
  exact lv_ixor C.1 C.2.1 hd (h l G p e s m args below meth c C h0 h1 h2 H locs ls hW hS hl)
theorem o_ishl {x y : Int32} (hd : decode μ.2.1 pc = .ok (.ishl, 1)) (h : x_Wg d μ N0 Q N (pc + 1) L (.int (x <<< (y &&& 31)) :: st) σ) : x_Wg d μ N0 Q N pc L (.int y :: .int x :: st) σ := by
  intro l G p e s m args below meth c C h0 h1 h2 H locs ls hW hS hl
  exact lv_ishl C.1 C.2.1 hd (h l G p e s m args below meth c C h0 h1 h2 H locs ls hW hS hl)
theorem o_ishr {x y : Int32} (hd : decode μ.2.1 pc = .ok (.ishr, 1)) (h : x_Wg d μ N0 Q N (pc + 1) L (.int (x >>> (y &&& 31)) :: st) σ) : x_Wg d μ N0 Q N pc L (.int y :: .int x :: st) σ := by
  intro l G p e s m args below meth c C h0 h1 h2 H locs ls hW hS hl
  exact lv_ishr C.1 C.2.1 hd (h l G p e s m args below meth c C h0 h1 h2 H locs ls hW hS hl)
theorem o_idiv {x y : Int32} (hd : decode μ.2.1 pc = .ok (.idiv, 1)) (hne : ¬ y = 0) (h : x_Wg d μ N0 Q N (pc + 1) L (.int (x / y) :: st) σ) : x_Wg d μ N0 Q N pc L (.int y :: .int x :: st) σ := by
  intro l G p e s m args below meth c C h0 h1 h2 H locs ls hW hS hl
  exact lv_idiv C.1 C.2.1 hd hne (h l G p e s m args below meth c C h0 h1 h2 H locs ls hW hS hl)
theorem o_irem {x y : Int32} (hd : decode μ.2.1 pc = .ok (.irem, 1)) (hne : ¬ y = 0) (h : x_Wg d μ N0 Q N (pc + 1) L (.int (x - x / y * y) :: st) σ) : x_Wg d μ N0 Q N pc L (.int y :: .int x :: st) σ := by
  intro l G p e s m args below meth c C h0 h1 h2 H locs ls hW hS hl
  exact lv_irem C.1 C.2.1 hd hne (h l G p e s m args below meth c C h0 h1 h2 H locs ls hW hS hl)
theorem o_iushr {x y : Int32} (hd : decode μ.2.1 pc = .ok (.iushr, 1)) (h : x_Wg d μ N0 Q N (pc + 1) L (.int ((x.toUInt32 >>> (y.toUInt32 &&& Int32.toUInt32 31)).toInt32) :: st) σ) : x_Wg d μ N0 Q N pc L (.int y :: .int x :: st) σ := by
  intro l G p e s m args below meth c C h0 h1 h2 H locs ls hW hS hl
  exact lv_iushr C.1 C.2.1 hd rfl (h l G p e s m args below meth c C h0 h1 h2 H locs ls hW hS hl)
theorem o_ineg {x : Int32} (hd : decode μ.2.1 pc = .ok (.ineg, 1)) (h : x_Wg d μ N0 Q N (pc + 1) L (.int (-x) :: st) σ) : x_Wg d μ N0 Q N pc L (.int x :: st) σ := by
  intro l G p e s m args below meth c C h0 h1 h2 H locs ls hW hS hl
  exact lv_ineg C.1 C.2.1 hd (h l G p e s m args below meth c C h0 h1 h2 H locs ls hW hS hl)
theorem o_ladd {x y : Int64} (hd : decode μ.2.1 pc = .ok (.ladd, 1)) (h : x_Wg d μ N0 Q N (pc + 1) L (.long (x + y) :: st) σ) : x_Wg d μ N0 Q N pc L (.long y :: .long x :: st) σ := by
  intro l G p e s m args below meth c C h0 h1 h2 H locs ls hW hS hl
  exact lv_ladd C.1 C.2.1 hd (h l G p e s m args below meth c C h0 h1 h2 H locs ls hW hS hl)
theorem o_lsub {x y : Int64} (hd : decode μ.2.1 pc = .ok (.lsub, 1)) (h : x_Wg d μ N0 Q N (pc + 1) L (.long (x - y) :: st) σ) : x_Wg d μ N0 Q N pc L (.long y :: .long x :: st) σ := by
  intro l G p e s m args below meth c C h0 h1 h2 H locs ls hW hS hl
  exact lv_lsub C.1 C.2.1 hd (h l G p e s m args below meth c C h0 h1 h2 H locs ls hW hS hl)
theorem o_lmul {x y : Int64} (hd : decode μ.2.1 pc = .ok (.lmul, 1)) (h : x_Wg d μ N0 Q N (pc + 1) L (.long (x * y) :: st) σ) : x_Wg d μ N0 Q N pc L (.long y :: .long x :: st) σ := by
  intro l G p e s m args below meth c C h0 h1 h2 H locs ls hW hS hl
  exact lv_lmul C.1 C.2.1 hd (h l G p e s m args below meth c C h0 h1 h2 H locs ls hW hS hl)
theorem o_ldiv {x y : Int64} (hd : decode μ.2.1 pc = .ok (.ldiv, 1)) (hne : ¬ y = 0) (h : x_Wg d μ N0 Q N (pc + 1) L (.long (x / y) :: st) σ) : x_Wg d μ N0 Q N pc L (.long y :: .long x :: st) σ := by
  intro l G p e s m args below meth c C h0 h1 h2 H locs ls hW hS hl
  exact lv_ldiv C.1 C.2.1 hd hne (h l G p e s m args below meth c C h0 h1 h2 H locs ls hW hS hl)
theorem o_lneg {x : Int64} (hd : decode μ.2.1 pc = .ok (.lneg, 1)) (h : x_Wg d μ N0 Q N (pc + 1) L (.long (-x) :: st) σ) : x_Wg d μ N0 Q N pc L (.long x :: st) σ := by
  intro l G p e s m args below meth c C h0 h1 h2 H locs ls hW hS hl
  exact lv_lneg C.1 C.2.1 hd (h l G p e s m args below meth c C h0 h1 h2 H locs ls hW hS hl)
theorem o_lcmp {x y : Int64} (hd : decode μ.2.1 pc = .ok (.lcmp, 1)) (h : x_Wg d μ N0 Q N (pc + 1) L (.int (lg_cmp x y) :: st) σ) : x_Wg d μ N0 Q N pc L (.long y :: .long x :: st) σ := by
  intro l G p e s m args below meth c C h0 h1 h2 H locs ls hW hS hl
  exact W.lcmp C.1 C.2.1 hd (h l G p e s m args below meth c C h0 h1 h2 H locs ls hW hS hl)
theorem o_i2l {x : Int32} (hd : decode μ.2.1 pc = .ok (.i2l, 1)) (h : x_Wg d μ N0 Q N (pc + 1) L (.long (x.toInt64) :: st) σ) : x_Wg d μ N0 Q N pc L (.int x :: st) σ := by
  intro l G p e s m args below meth c C h0 h1 h2 H locs ls hW hS hl
  exact lv_i2l C.1 C.2.1 hd rfl (h l G p e s m args below meth c C h0 h1 h2 H locs ls hW hS hl)
theorem o_l2i {x : Int64} (hd : decode μ.2.1 pc = .ok (.l2i, 1)) (h : x_Wg d μ N0 Q N (pc + 1) L (.int (x.toInt32) :: st) σ) : x_Wg d μ N0 Q N pc L (.long x :: st) σ := by
  intro l G p e s m args below meth c C h0 h1 h2 H locs ls hW hS hl
  exact lv_l2i C.1 C.2.1 hd rfl (h l G p e s m args below meth c C h0 h1 h2 H locs ls hW hS hl)
theorem o_i2b {x : Int32} (hd : decode μ.2.1 pc = .ok (.i2b, 1)) (h : x_Wg d μ N0 Q N (pc + 1) L (.int (x.toInt8.toInt32) :: st) σ) : x_Wg d μ N0 Q N pc L (.int x :: st) σ := by
  intro l G p e s m args below meth c C h0 h1 h2 H locs ls hW hS hl
  exact lv_i2b C.1 C.2.1 hd rfl (h l G p e s m args below meth c C h0 h1 h2 H locs ls hW hS hl)
theorem o_i2c {x : Int32} (hd : decode μ.2.1 pc = .ok (.i2c, 1)) (h : x_Wg d μ N0 Q N (pc + 1) L (.int ((x.toUInt32 % 65536).toInt32) :: st) σ) : x_Wg d μ N0 Q N pc L (.int x :: st) σ := by
  intro l G p e s m args below meth c C h0 h1 h2 H locs ls hW hS hl
  exact lv_i2c C.1 C.2.1 hd rfl (h l G p e s m args below meth c C h0 h1 h2 H locs ls hW hS hl)
theorem o_dup {v : Value} (hd : decode μ.2.1 pc = .ok (.dup, 1)) (hv : v.category = 1) (h : x_Wg d μ N0 Q N (pc + 1) L (v :: v :: st) σ) : x_Wg d μ N0 Q N pc L (v :: st) σ := by
  intro l G p e s m args below meth c C h0 h1 h2 H locs ls hW hS hl
  exact lv_dup C.1 C.2.1 hd (by rw [x_ad_cat]; exact hv) (h l G p e s m args below meth c C h0 h1 h2 H locs ls hW hS hl)
theorem o_dup2 {v w : Value} (hd : decode μ.2.1 pc = .ok (.dup2, 1)) (hv : v.category = 1) (hw : w.category = 1) (h : x_Wg d μ N0 Q N (pc + 1) L (v :: w :: v :: w :: st) σ) : x_Wg d μ N0 Q N pc L (v :: w :: st) σ := by
  intro l G p e s m args below meth c C h0 h1 h2 H locs ls hW hS hl
  exact lv_dup2_11 C.1 C.2.1 hd (by rw [x_ad_cat]; exact hv) (by rw [x_ad_cat]; exact hw) (h l G p e s m args below meth c C h0 h1 h2 H locs ls hW hS hl)
theorem o_pop {v : Value} (hd : decode μ.2.1 pc = .ok (.pop, 1)) (hv : v.category = 1) (h : x_Wg d μ N0 Q N (pc + 1) L st σ) : x_Wg d μ N0 Q N pc L (v :: st) σ := by
  intro l G p e s m args below meth c C h0 h1 h2 H locs ls hW hS hl
  exact lv_pop C.1 C.2.1 hd (by rw [x_ad_cat]; exact hv) (h l G p e s m args below meth c C h0 h1 h2 H locs ls hW hS hl)
theorem o_iinc {i : Nat} {n : Int} {x v : Int32} (j : Nat) (hd : decode μ.2.1 pc = .ok (.iinc i n, 3)) (hj : L[j]? = some (i, .int x)) (hv : x + Int32.ofInt n = v) (hn : i < μ.2.2.1) (hL : x_st1 i (.int v) L = L') (h : x_Wg d μ N0 Q N (pc + 3) L' st σ) : x_Wg d μ N0 Q N pc L st σ := by
  intro l G p e s m args below meth c C h0 h1 h2 H locs ls hW hS hl
  exact lv_iinc C.1 C.2.1 hd hl (k := j) (by rw [List.getElem?_map, hj]; rfl) hv hn (x_st1_map rfl hL) (fun ls' hl' => h l G p e s m args below meth c C h0 h1 h2 H locs ls' hW hS hl')
theorem o_icmp_eq {x y : Int32} {off : Int} (tgt : Nat) (hd : decode μ.2.1 pc = .ok (.if_icmp .eq off, 3)) (ht : (pc : Int) + off = (tgt : Int)) (kt : x = y → x_Wg d μ N0 Q N tgt L st σ) (kf : ¬ x = y → x_Wg d μ N0 Q N (pc + 3) L st σ) : x_Wg d μ N0 Q N pc L (.int y :: .int x :: st) σ := by
  intro l G p e s m args below meth c C h0 h1 h2 H locs ls hW hS hl
  exact lv_icmp_eq C.1 C.2.1 hd ht (fun q => kt q l G p e s m args below meth c C h0 h1 h2 H locs ls hW hS hl) (fun q => kf q l G p e s m args below meth c C h0 h1 h2 H locs ls hW hS hl)
theorem o_if_eq {x : Int32} {off : Int} (tgt : Nat) (hd : decode μ.2.1 pc = .ok (.ifCond .eq off, 3)) (ht : (pc : Int) + off = (tgt : Int)) (kt : x = 0 → x_Wg d μ N0 Q N tgt L st σ) (kf : ¬ x = 0 → x_Wg d μ N0 Q N (pc + 3) L st σ) : x_Wg d μ N0 Q N pc L (.int x :: st) σ := by
  intro l G p e s m args below meth c C h0 h1 h2 H locs ls hW hS hl
  exact lv_if_eq C.1 C.2.1 hd ht (fun q => kt q l G p e s m args below meth c C h0 h1 h2 H locs ls hW hS hl) (fun q => kf q l G p e s m args below meth c C h0 h1 h2 H locs ls hW hS hl)
theorem o_icmp_ne {x y : Int32} {off : Int} (tgt : Nat) (hd : decode μ.2.1 pc = .ok (.if_icmp .ne off, 3)) (ht : (pc : Int) + off = (tgt : Int)) (kt : ¬ x = y → x_Wg d μ N0 Q N tgt L st σ) (kf : x = y → x_Wg d μ N0 Q N (pc + 3) L st σ) : x_Wg d μ N0 Q N pc L (.int y :: .int x :: st) σ := by
  intro l G p e s m args below meth c C h0 h1 h2 H locs ls hW hS hl
  exact lv_icmp_ne C.1 C.2.1 hd ht (fun q => kt q l G p e s m args below meth c C h0 h1 h2 H locs ls hW hS hl) (fun q => kf q l G p e s m args below meth c C h0 h1 h2 H locs ls hW hS hl)
theorem o_if_ne {x : Int32} {off : Int} (tgt : Nat) (hd : decode μ.2.1 pc = .ok (.ifCond .ne off, 3)) (ht : (pc : Int) + off = (tgt : Int)) (kt : ¬ x = 0 → x_Wg d μ N0 Q N tgt L st σ) (kf : x = 0 → x_Wg d μ N0 Q N (pc + 3) L st σ) : x_Wg d μ N0 Q N pc L (.int x :: st) σ := by
  intro l G p e s m args below meth c C h0 h1 h2 H locs ls hW hS hl
  exact lv_if_ne C.1 C.2.1 hd ht (fun q => kt q l G p e s m args below meth c C h0 h1 h2 H locs ls hW hS hl) (fun q => kf q l G p e s m args below meth c C h0 h1 h2 H locs ls hW hS hl)
theorem o_icmp_lt {x y : Int32} {off : Int} (tgt : Nat) (hd : decode μ.2.1 pc = .ok (.if_icmp .lt off, 3)) (ht : (pc : Int) + off = (tgt : Int)) (kt : x < y → x_Wg d μ N0 Q N tgt L st σ) (kf : ¬ x < y → x_Wg d μ N0 Q N (pc + 3) L st σ) : x_Wg d μ N0 Q N pc L (.int y :: .int x :: st) σ := by
  intro l G p e s m args below meth c C h0 h1 h2 H locs ls hW hS hl
  exact lv_icmp_lt C.1 C.2.1 hd ht (fun q => kt q l G p e s m args below meth c C h0 h1 h2 H locs ls hW hS hl) (fun q => kf q l G p e s m args below meth c C h0 h1 h2 H locs ls hW hS hl)
theorem o_if_lt {x : Int32} {off : Int} (tgt : Nat) (hd : decode μ.2.1 pc = .ok (.ifCond .lt off, 3)) (ht : (pc : Int) + off = (tgt : Int)) (kt : x < 0 → x_Wg d μ N0 Q N tgt L st σ) (kf : ¬ x < 0 → x_Wg d μ N0 Q N (pc + 3) L st σ) : x_Wg d μ N0 Q N pc L (.int x :: st) σ := by
  intro l G p e s m args below meth c C h0 h1 h2 H locs ls hW hS hl
  exact lv_if_lt C.1 C.2.1 hd ht (fun q => kt q l G p e s m args below meth c C h0 h1 h2 H locs ls hW hS hl) (fun q => kf q l G p e s m args below meth c C h0 h1 h2 H locs ls hW hS hl)
theorem o_icmp_ge {x y : Int32} {off : Int} (tgt : Nat) (hd : decode μ.2.1 pc = .ok (.if_icmp .ge off, 3)) (ht : (pc : Int) + off = (tgt : Int)) (kt : y ≤ x → x_Wg d μ N0 Q N tgt L st σ) (kf : ¬ y ≤ x → x_Wg d μ N0 Q N (pc + 3) L st σ) : x_Wg d μ N0 Q N pc L (.int y :: .int x :: st) σ := by
  intro l G p e s m args below meth c C h0 h1 h2 H locs ls hW hS hl
  exact lv_icmp_ge C.1 C.2.1 hd ht (fun q => kt q l G p e s m args below meth c C h0 h1 h2 H locs ls hW hS hl) (fun q => kf q l G p e s m args below meth c C h0 h1 h2 H locs ls hW hS hl)
theorem o_if_ge {x : Int32} {off : Int} (tgt : Nat) (hd : decode μ.2.1 pc = .ok (.ifCond .ge off, 3)) (ht : (pc : Int) + off = (tgt : Int)) (kt : 0 ≤ x → x_Wg d μ N0 Q N tgt L st σ) (kf : ¬ 0 ≤ x → x_Wg d μ N0 Q N (pc + 3) L st σ) : x_Wg d μ N0 Q N pc L (.int x :: st) σ := by
  intro l G p e s m args below meth c C h0 h1 h2 H locs ls hW hS hl
  exact lv_if_ge C.1 C.2.1 hd ht (fun q => kt q l G p e s m args below meth c C h0 h1 h2 H locs ls hW hS hl) (fun q => kf q l G p e s m args below meth c C h0 h1 h2 H locs ls hW hS hl)
theorem o_icmp_gt {x y : Int32} {off : Int} (tgt : Nat) (hd : decode μ.2.1 pc = .ok (.if_icmp .gt off, 3)) (ht : (pc : Int) + off = (tgt : Int)) (kt : y < x → x_Wg d μ N0 Q N tgt L st σ) (kf : ¬ y < x → x_Wg d μ N0 Q N (pc + 3) L st σ) : x_Wg d μ N0 Q N pc L (.int y :: .int x :: st) σ := by
  intro l G p e s m args below meth c C h0 h1 h2 H locs ls hW hS hl
  exact lv_icmp_gt C.1 C.2.1 hd ht (fun q => kt q l G p e s m args below meth c C h0 h1 h2 H locs ls hW hS hl) (fun q => kf q l G p e s m args below meth c C h0 h1 h2 H locs ls hW hS hl)
theorem o_if_gt {x : Int32} {off : Int} (tgt : Nat) (hd : decode μ.2.1 pc = .ok (.ifCond .gt off, 3)) (ht : (pc : Int) + off = (tgt : Int)) (kt : 0 < x → x_Wg d μ N0 Q N tgt L st σ) (kf : ¬ 0 < x → x_Wg d μ N0 Q N (pc + 3) L st σ) : x_Wg d μ N0 Q N pc L (.int x :: st) σ := by
  intro l G p e s m args below meth c C h0 h1 h2 H locs ls hW hS hl
  exact lv_if_gt C.1 C.2.1 hd ht (fun q => kt q l G p e s m args below meth c C h0 h1 h2 H locs ls hW hS hl) (fun q => kf q l G p e s m args below meth c C h0 h1 h2 H locs ls hW hS hl)
theorem o_icmp_le {x y : Int32} {off : Int} (tgt : Nat) (hd : decode μ.2.1 pc = .ok (.if_icmp .le off, 3)) (ht : (pc : Int) + off = (tgt : Int)) (kt : x ≤ y → x_Wg d μ N0 Q N tgt L st σ) (kf : ¬ x ≤ y → x_Wg d μ N0 Q N (pc + 3) L st σ) : x_Wg d μ N0 Q N pc L (.int y :: .int x :: st) σ := by
  intro l G p e s m args below meth c C h0 h1 h2 H locs ls hW hS hl
  exact lv_icmp_le C.1 C.2.1 hd ht (fun q => kt q l G p e s m args below meth c C h0 h1 h2 H locs ls hW hS hl) (fun q => kf q l G p e s m args below meth c C h0 h1 h2 H locs ls hW hS hl)
theorem o_if_le {x : Int32} {off : Int} (tgt : Nat) (hd : decode μ.2.1 pc = .ok (.ifCond .le off, 3)) (ht : (pc : Int) + off = (tgt : Int)) (kt : x ≤ 0 → x_Wg d μ N0 Q N tgt L st σ) (kf : ¬ x ≤ 0 → x_Wg d μ N0 Q N (pc + 3) L st σ) : x_Wg d μ N0 Q N pc L (.int x :: st) σ := by
  intro l G p e s m args below meth c C h0 h1 h2 H locs ls hW hS hl
  exact lv_if_le C.1 C.2.1 hd ht (fun q => kt q l G p e s m args below meth c C h0 h1 h2 H locs ls hW hS hl) (fun q => kf q l G p e s m args below meth c C h0 h1 h2 H locs ls hW hS hl)
theorem o_goto {off : Int} (tgt : Nat) (hd : decode μ.2.1 pc = .ok (.goto off, 3)) (ht : (pc : Int) + off = (tgt : Int)) (h : x_Wg d μ N0 Q N tgt L st σ) : x_Wg d μ N0 Q N pc L st σ := by
  intro l G p e s m args below meth c C h0 h1 h2 H locs ls hW hS hl
  exact lv_goto C.1 C.2.1 hd ht (h l G p e s m args below meth c C h0 h1 h2 H locs ls hW hS hl)
theorem o_ifnull {r : Option Nat} {off : Int} (tgt : Nat) (hd : decode μ.2.1 pc = .ok (.ifnull off, 3)) (ht : (pc : Int) + off = (tgt : Int)) (kt : r = none → x_Wg d μ N0 Q N tgt L st σ) (kf : ∀ c, r = some c → x_Wg d μ N0 Q N (pc + 3) L st σ) : x_Wg d μ N0 Q N pc L (x_rf r :: st) σ := by
  cases r with
  | none =>
    intro l G p e s m args below meth c C h0 h1 h2 H locs ls hW hS hl
    exact lv_ifnullN C.1 C.2.1 hd ht (kt rfl l G p e s m args below meth c C h0 h1 h2 H locs ls hW hS hl)
  | some a =>
    intro l G p e s m args below meth c C h0 h1 h2 H locs ls hW hS hl
    exact lv_ifnull C.1 C.2.1 hd (kf a rfl l G p e s m args below meth c C h0 h1 h2 H locs ls hW hS hl)
theorem o_ifnonnull {r : Option Nat} {off : Int} (tgt : Nat) (hd : decode μ.2.1 pc = .ok (.ifnonnull off, 3)) (ht : (pc : Int) + off = (tgt : Int)) (kt : ∀ c, r = some c → x_Wg d μ N0 Q N tgt L st σ) (kf : r = none → x_Wg d μ N0 Q N (pc + 3) L st σ) : x_Wg d μ N0 Q N pc L (x_rf r :: st) σ := by
  cases r with
  | none =>
    intro l G p e s m args below meth c C h0 h1 h2 H locs ls hW hS hl
    exact lv_ifnonnullN C.1 C.2.1 hd (kf rfl l G p e s m args below meth c C h0 h1 h2 H locs ls hW hS hl)
  | some a =>
    intro l G p e s m args below meth c C h0 h1 h2 H locs ls hW hS hl
    exact lv_ifnonnull C.1 C.2.1 hd ht (kt a rfl l G p e s m args below meth c C h0 h1 h2 H locs ls hW hS hl)
theorem o_tableIn {dflt lo hi : Int} {offs : Array Int} {len : Nat} {x : Int32} {off : Int} {tgt : Nat} (hd : decode μ.2.1 pc = .ok (.tableswitch dflt lo hi offs, len)) (h1 : ¬ x.toInt < lo) (h2 : ¬ hi < x.toInt) (ho : offs[(x.toInt - lo).toNat]? = some off) (ht : (pc : Int) + off = (tgt : Int)) (h : x_Wg d μ N0 Q N tgt L st σ) : x_Wg d μ N0 Q N pc L (.int x :: st) σ := by
  intro l G p e s m args below meth c C g0 g1 g2 H locs ls hW hS hl
  exact lv_tableIn C.1 C.2.1 hd h1 h2 ho ht (h l G p e s m args below meth c C g0 g1 g2 H locs ls hW hS hl)
theorem o_tableOut {dflt lo hi : Int} {offs : Array Int} {len : Nat} {x : Int32} {tgt : Nat} (hd : decode μ.2.1 pc = .ok (.tableswitch dflt lo hi offs, len)) (hx : x.toInt < lo ∨ hi < x.toInt) (ht : (pc : Int) + dflt = (tgt : Int)) (h : x_Wg d μ N0 Q N tgt L st σ) : x_Wg d μ N0 Q N pc L (.int x :: st) σ := by
  intro l G p e s m args below meth c C g0 g1 g2 H locs ls hW hS hl
  exact lv_tableOut C.1 C.2.1 hd hx ht (h l G p e s m args below meth c C g0 g1 g2 H locs ls hW hS hl)
theorem o_lookup {dflt : Int} {ps : Array (Int × Int)} {len : Nat} {x : Int32} {off : Int} {tgt : Nat} (hd : decode μ.2.1 pc = .ok (.lookupswitch dflt ps, len)) (hp : (ps.toList.zip (ps.toList.drop 1)).all (fun (a, next) => a.1 < next.1) = true) (ho : Op.lookupswitch.offset ps.toList dflt x.toInt = off) (ht : (pc : Int) + off = (tgt : Int)) (h : x_Wg d μ N0 Q N tgt L st σ) : x_Wg d μ N0 Q N pc L (.int x :: st) σ := by
  intro l G p e s m args below meth c C g0 g1 g2 H locs ls hW hS hl
  exact lv_lookup C.1 C.2.1 hd hp ho ht (h l G p e s m args below meth c C g0 g1 g2 H locs ls hW hS hl)
/-- fewer locals are kept in mind, by their places -/
theorem o_sub (ks : List Nat) (hL : ks.filterMap (fun k => L[k]?) = L') (h : x_Wg d μ N0 Q N pc L' st σ) : x_Wg d μ N0 Q N pc L st σ := by
  intro l G p e s m args below meth c C h0 h1 h2 H locs ls hW hS hl
  refine h l G p e s m args below meth c C h0 h1 h2 H locs ls hW hS ⟨hl.1, hl.2.1, fun q hq => ?_⟩
  subst hL
  obtain ⟨a, ha, rfl⟩ := List.mem_map.mp hq
  obtain ⟨k, -, hk⟩ := List.mem_filterMap.mp ha
  exact hl.2.2 _ (List.mem_map.mpr ⟨a, List.mem_of_getElem? hk, rfl⟩)
/-- a number gets a name -/
theorem o_name {x : Int32} (h : ∀ y, y = x → x_Wg d μ N0 Q N pc L (.int y :: st) σ) : x_Wg d μ N0 Q N pc L (.int x :: st) σ := h x rfl
theorem o_nameL {x : Int64} (h : ∀ y, y = x → x_Wg d μ N0 Q N pc L (.long y :: st) σ) : x_Wg d μ N0 Q N pc L (.long x :: st) σ := h x rfl
theorem x_end {l : Launch} {G : x_G} {p : Program} {e : Env} {s : State} {m : MethodId} {args : Array Value} {meth : Method} {c : Code} {H : Heap} {locs : List Loc} (C : x_Cx l G p e s m args meth c μ N0) (hN : N = N0 + μ.2.2.2.2.1) (hW : x_W G N σ H) (hS : va_S (x_A G) s.heap H locs) {v : Option Value} (hq : Q σ v) (t : State) (ht : t.heap = H) : x_Qc G N0 μ Q args s (.returned (v.map (x_ad G.2.2.1))) t :=
  ⟨⟨v, σ, rfl, hq, by rw [ht, ← hN]; exact hW⟩, hS.F ht⟩
theorem o_iret {v : Int32} {ty : FieldType} (hr : μ.2.2.2.1 = some ty) (hn : narrow ty (.int v) = .int v) (hd : decode μ.2.1 pc = .ok (.ireturn, 1)) (hN : N = N0 + μ.2.2.2.2.1) (h : Q σ (some (.int v))) : x_Wg d μ N0 Q N pc L [.int v] σ := by
  intro l G p e s m args below meth c C h0 h1 h2 H locs ls hW hS hl
  refine W.widen (k := μ.2.2.2.2.1) (n := μ.2.2.2.2.2) (by omega) (by omega) ?_
  exact W.zret C.1 C.2.1 (C.2.2.1.trans hr) hn (fun t ht _ => x_end C hN hW hS h t ht) hS.2.2 hd C.2.2.2.2.2.1
theorem o_lret {v : Int64} (hr : μ.2.2.2.1 = some .long) (hd : decode μ.2.1 pc = .ok (.lreturn, 1)) (hN : N = N0 + μ.2.2.2.2.1) (h : Q σ (some (.long v))) : x_Wg d μ N0 Q N pc L [.long v] σ := by
  intro l G p e s m args below meth c C h0 h1 h2 H locs ls hW hS hl
  refine W.widen (k := μ.2.2.2.2.1) (n := μ.2.2.2.2.2) (by omega) (by omega) ?_
  exact W.lret C.1 C.2.1 (C.2.2.1.trans hr) (fun t ht _ => x_end C hN hW hS h t ht) hS.2.2 hd C.2.2.2.2.2.1
theorem o_vret (hr : μ.2.2.2.1 = none) (hd : decode μ.2.1 pc = .ok (.return_, 1)) (hN : N = N0 + μ.2.2.2.2.1) (h : Q σ none) : x_Wg d μ N0 Q N pc L [] σ := by
  intro l G p e s m args below meth c C h0 h1 h2 H locs ls hW hS hl
  refine W.widen (k := μ.2.2.2.2.1) (n := μ.2.2.2.2.2) (by omega) (by omega) ?_
  exact W.vret C.1 C.2.1 (C.2.2.1.trans hr) (fun t ht _ => x_end (v := none) C hN hW hS h t ht) hS.2.2 hd C.2.2.2.2.2.1
theorem o_aret {r : Option Nat} {C0 : String} (hr : μ.2.2.2.1 = some (.object C0)) (hd : decode μ.2.1 pc = .ok (.areturn, 1)) (hN : N = N0 + μ.2.2.2.2.1) (h : Q σ (some (x_rf r))) : x_Wg d μ N0 Q N pc L [x_rf r] σ := by
  intro l G p e s m args below meth c C h0 h1 h2 H locs ls hW hS hl
  refine W.widen (k := μ.2.2.2.2.1) (n := μ.2.2.2.2.2) (by omega) (by omega) ?_
  refine W.aret C.1 C.2.1 (C.2.2.1.trans hr) (Or.inl ⟨_, rfl⟩) ?_ (fun t ht _ => x_end (v := some (x_rf r)) C hN hW hS h t ht) hS.2.2 hd C.2.2.2.2.2.1
  cases r with
  | none => exact Or.inl rfl
  | some a => exact Or.inr ⟨_, rfl⟩
end XO
