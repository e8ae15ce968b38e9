def mj_len : x_M := (yJ0_length_8abf5, cJ0_length_8abf5, 1, some .int, 0, 0)
set_option maxRecDepth 100000 in
theorem jok_len : x_cok mj_len 0 := ⟨x_tb_in (List.mem_of_getElem? (i := 130) (by decide +kernel)) (by decide +kernel), x_tb_in (List.mem_of_getElem? (i := 827) rfl) rfl, ⟨by decide, by decide, by decide +kernel⟩, by decide⟩
theorem jvk_len : x_vok mj_len 0 := ⟨jok_len, x_tb_in (List.mem_of_getElem? (i := 825) (by decide +kernel)) (by decide +kernel), x_tb_in (List.mem_of_getElem? (i := 826) (by decide +kernel)) (by decide +kernel), rfl⟩
def mj_coder : x_M := (yJ0_coder_7d493, cJ0_coder_7d493, 1, some .byte, 0, 0)
set_option maxRecDepth 100000 in
theorem jok_coder : x_cok mj_coder 0 := ⟨x_tb_in (List.mem_of_getElem? (i := 130) (by decide +kernel)) (by decide +kernel), x_tb_in (List.mem_of_getElem? (i := 831) rfl) rfl, ⟨by decide, by decide, by decide +kernel⟩, by decide⟩
theorem jvk_coder : x_vok mj_coder 0 := ⟨jok_coder, x_tb_in (List.mem_of_getElem? (i := 829) (by decide +kernel)) (by decide +kernel), x_tb_in (List.mem_of_getElem? (i := 830) (by decide +kernel)) (by decide +kernel), rfl⟩
def mj_charAt : x_M := (yJ0_charAt_5068e, cJ0_charAt_5068e, 2, some .char, 0, 0)
set_option maxRecDepth 100000 in
theorem jok_charAt : x_cok mj_charAt 1 := ⟨x_tb_in (List.mem_of_getElem? (i := 130) (by decide +kernel)) (by decide +kernel), x_tb_in (List.mem_of_getElem? (i := 837) rfl) rfl, ⟨by decide, by decide, by decide +kernel⟩, by decide⟩
theorem jvk_charAt : x_vok mj_charAt 1 := ⟨jok_charAt, x_tb_in (List.mem_of_getElem? (i := 835) (by decide +kernel)) (by decide +kernel), x_tb_in (List.mem_of_getElem? (i := 836) (by decide +kernel)) (by decide +kernel), rfl⟩
def mj_isL : x_M := (yJ0_isLatin1_aae02, cJ0_isLatin1_aae02, 1, some .boolean, 0, 0)
set_option maxRecDepth 100000 in
theorem jok_isL : x_cok mj_isL 0 := ⟨x_tb_in (List.mem_of_getElem? (i := 130) (by decide +kernel)) (by decide +kernel), x_tb_in (List.mem_of_getElem? (i := 841) rfl) rfl, ⟨by decide, by decide, by decide +kernel⟩, by decide⟩
theorem jvk_isL : x_vok mj_isL 0 := ⟨jok_isL, x_tb_in (List.mem_of_getElem? (i := 839) (by decide +kernel)) (by decide +kernel), x_tb_in (List.mem_of_getElem? (i := 840) (by decide +kernel)) (by decide +kernel), rfl⟩
def mj_cAt1 : x_M := (yJ1_charAt_3b067, cJ1_charAt_3b067, 2, some .char, 0, 0)
set_option maxRecDepth 100000 in
theorem jok_cAt1 : x_cok mj_cAt1 2 := ⟨x_tb_in (List.mem_of_getElem? (i := 131) (by decide +kernel)) (by decide +kernel), x_tb_in (List.mem_of_getElem? (i := 844) rfl) rfl, ⟨by decide, by decide, by decide +kernel⟩, by decide⟩
theorem jst_cAt1 : Cond.static mj_cAt1.1 ∈ x_tb := x_tb_in (List.mem_of_getElem? (i := 843) (by decide +kernel)) (by decide +kernel)
def mj_ix : x_M := (yJ0_indexOf_0f7a4, cJ0_indexOf_0f7a4, 2, some .int, 0, 0)
set_option maxRecDepth 100000 in
theorem jok_ix : x_cok mj_ix 1 := ⟨x_tb_in (List.mem_of_getElem? (i := 130) (by decide +kernel)) (by decide +kernel), x_tb_in (List.mem_of_getElem? (i := 892) rfl) rfl, ⟨by decide, by decide, by decide +kernel⟩, by decide⟩
theorem jvk_ix : x_vok mj_ix 1 := ⟨jok_ix, x_tb_in (List.mem_of_getElem? (i := 890) (by decide +kernel)) (by decide +kernel), x_tb_in (List.mem_of_getElem? (i := 891) (by decide +kernel)) (by decide +kernel), rfl⟩
def mj_ix2 : x_M := (yJ0_indexOf_7cf53, cJ0_indexOf_7cf53, 3, some .int, 0, 0)
set_option maxRecDepth 100000 in
theorem jok_ix2 : x_cok mj_ix2 2 := ⟨x_tb_in (List.mem_of_getElem? (i := 130) (by decide +kernel)) (by decide +kernel), x_tb_in (List.mem_of_getElem? (i := 896) rfl) rfl, ⟨by decide, by decide, by decide +kernel⟩, by decide⟩
theorem jvk_ix2 : x_vok mj_ix2 2 := ⟨jok_ix2, x_tb_in (List.mem_of_getElem? (i := 894) (by decide +kernel)) (by decide +kernel), x_tb_in (List.mem_of_getElem? (i := 895) (by decide +kernel)) (by decide +kernel), rfl⟩
def mj_ix1 : x_M := (yJ1_indexOf_4cfef, cJ1_indexOf_4cfef, 4, some .int, 0, 0)
set_option maxRecDepth 100000 in
theorem jok_ix1 : x_cok mj_ix1 4 := ⟨x_tb_in (List.mem_of_getElem? (i := 131) (by decide +kernel)) (by decide +kernel), x_tb_in (List.mem_of_getElem? (i := 900) rfl) rfl, ⟨by decide, by decide, by decide +kernel⟩, by decide⟩
theorem jst_ix1 : Cond.static mj_ix1.1 ∈ x_tb := x_tb_in (List.mem_of_getElem? (i := 899) (by decide +kernel)) (by decide +kernel)
def mj_can : x_M := (yJ1_canEncode_9a6ad, cJ1_canEncode_9a6ad, 1, some .boolean, 0, 0)
set_option maxRecDepth 100000 in
theorem jok_can : x_cok mj_can 1 := ⟨x_tb_in (List.mem_of_getElem? (i := 131) (by decide +kernel)) (by decide +kernel), x_tb_in (List.mem_of_getElem? (i := 903) rfl) rfl, ⟨by decide, by decide, by decide +kernel⟩, by decide⟩
theorem jst_can : Cond.static mj_can.1 ∈ x_tb := x_tb_in (List.mem_of_getElem? (i := 902) (by decide +kernel)) (by decide +kernel)
def mj_ixc : x_M := (yJ1_indexOfChar_4cfef, cJ1_indexOfChar_4cfef, 6, some .int, 0, 0)
set_option maxRecDepth 100000 in
theorem jok_ixc : x_cok mj_ixc 4 := ⟨x_tb_in (List.mem_of_getElem? (i := 131) (by decide +kernel)) (by decide +kernel), x_tb_in (List.mem_of_getElem? (i := 908) rfl) rfl, ⟨by decide, by decide, by decide +kernel⟩, by decide⟩
theorem jst_ixc : Cond.static mj_ixc.1 ∈ x_tb := x_tb_in (List.mem_of_getElem? (i := 907) (by decide +kernel)) (by decide +kernel)
def mj_chk : x_M := (yJ0_checkIndex_df160, cJ0_checkIndex_df160, 2, none, 0, 0)
set_option maxRecDepth 100000 in
theorem jok_chk : x_cok mj_chk 2 := ⟨x_tb_in (List.mem_of_getElem? (i := 130) (by decide +kernel)) (by decide +kernel), x_tb_in (List.mem_of_getElem? (i := 847) rfl) rfl, ⟨by decide, by decide, by decide +kernel⟩, by decide⟩
theorem jst_chk : Cond.static mj_chk.1 ∈ x_tb := x_tb_in (List.mem_of_getElem? (i := 846) (by decide +kernel)) (by decide +kernel)
def mj_chkP : x_M := (yJ3_checkIndex_8e157, cJ3_checkIndex_8e157, 3, some .int, 0, 0)
set_option maxRecDepth 100000 in
theorem jok_chkP : x_cok mj_chkP 3 := ⟨x_tb_in (List.mem_of_getElem? (i := 132) (by decide +kernel)) (by decide +kernel), x_tb_in (List.mem_of_getElem? (i := 852) rfl) rfl, ⟨by decide, by decide, by decide +kernel⟩, by decide⟩
theorem jst_chkP : Cond.static mj_chkP.1 ∈ x_tb := x_tb_in (List.mem_of_getElem? (i := 851) (by decide +kernel)) (by decide +kernel)
theorem jl_S_335 : Cond.methodLink "java/lang/String" 335 mj_coder.1 ∈ x_tb := x_tb_in (List.mem_of_getElem? (i := 828) (by decide +kernel)) (by decide +kernel)
theorem jl_S_492 : Cond.methodLink "java/lang/String" 492 mj_isL.1 ∈ x_tb := x_tb_in (List.mem_of_getElem? (i := 838) (by decide +kernel)) (by decide +kernel)
theorem jl_S_495 : Cond.methodLink "java/lang/String" 495 mj_cAt1.1 ∈ x_tb := x_tb_in (List.mem_of_getElem? (i := 842) (by decide +kernel)) (by decide +kernel)
theorem jl_L_9 : Cond.methodLink "java/lang/StringLatin1" 9 mj_chk.1 ∈ x_tb := x_tb_in (List.mem_of_getElem? (i := 845) (by decide +kernel)) (by decide +kernel)
theorem jl_S_1059 : Cond.methodLink "java/lang/String" 1059 mj_chkP.1 ∈ x_tb := x_tb_in (List.mem_of_getElem? (i := 850) (by decide +kernel)) (by decide +kernel)
theorem jl_S_633 : Cond.methodLink "java/lang/String" 633 mj_ix2.1 ∈ x_tb := x_tb_in (List.mem_of_getElem? (i := 893) (by decide +kernel)) (by decide +kernel)
theorem jl_S_505 : Cond.methodLink "java/lang/String" 505 mj_len.1 ∈ x_tb := x_tb_in (List.mem_of_getElem? (i := 897) (by decide +kernel)) (by decide +kernel)
theorem jl_S_637 : Cond.methodLink "java/lang/String" 637 mj_ix1.1 ∈ x_tb := x_tb_in (List.mem_of_getElem? (i := 898) (by decide +kernel)) (by decide +kernel)
theorem jl_L_88 : Cond.methodLink "java/lang/StringLatin1" 88 mj_can.1 ∈ x_tb := x_tb_in (List.mem_of_getElem? (i := 901) (by decide +kernel)) (by decide +kernel)
theorem jl_L_95 : Cond.methodLink "java/lang/StringLatin1" 95 mj_ixc.1 ∈ x_tb := x_tb_in (List.mem_of_getElem? (i := 906) (by decide +kernel)) (by decide +kernel)
theorem jl_T_61 : Cond.methodLink "NoonOnABarrow$Tape" 61 mj_len.1 ∈ x_tb := x_tb_in (List.mem_of_getElem? (i := 824) (by decide +kernel)) (by decide +kernel)
theorem jl_T_66 : Cond.methodLink "NoonOnABarrow$Tape" 66 mj_charAt.1 ∈ x_tb := x_tb_in (List.mem_of_getElem? (i := 834) (by decide +kernel)) (by decide +kernel)
theorem jl_T_77 : Cond.methodLink "NoonOnABarrow$Tape" 77 mj_ix.1 ∈ x_tb := x_tb_in (List.mem_of_getElem? (i := 889) (by decide +kernel)) (by decide +kernel)
theorem jl_L_92 : Cond.methodLink "java/lang/StringLatin1" 92 Lib.Math.max.name ∈ x_tb := x_tb_in (List.mem_of_getElem? (i := 904) (by decide +kernel)) (by decide +kernel)
theorem jl_L_38 : Cond.methodLink "java/lang/StringLatin1" 38 Lib.Math.min.name ∈ x_tb := x_tb_in (List.mem_of_getElem? (i := 905) (by decide +kernel)) (by decide +kernel)
theorem jf_value : Cond.fieldLink "java/lang/String" 9 "java/lang/String" "value" "[B" ∈ x_tb := x_tb_in (List.mem_of_getElem? (i := 1978) (by decide +kernel)) (by decide +kernel)
theorem jf_coder : Cond.fieldLink "java/lang/String" 15 "java/lang/String" "coder" "B" ∈ x_tb := x_tb_in (List.mem_of_getElem? (i := 1979) (by decide +kernel)) (by decide +kernel)
theorem jf_comp : Cond.fieldLink "java/lang/String" 38 "java/lang/String" "COMPACT_STRINGS" "Z" ∈ x_tb := x_tb_in (List.mem_of_getElem? (i := 832) (by decide +kernel)) (by decide +kernel)
theorem jf_fmt : Cond.fieldLink "java/lang/String" 1053 "jdk/internal/util/Preconditions" "SIOOBE_FORMATTER" "Ljava/util/function/BiFunction;" ∈ x_tb := x_tb_in (List.mem_of_getElem? (i := 848) (by decide +kernel)) (by decide +kernel)
/-! nothing is written by these -/
def x_JQ (v : Option Value) : Array Value → State → Outcome → State → Prop := fun _ st oc t => oc = .returned v ∧ t.heap = st.heap
def x_JM (d : Nat) (μ : x_M) (G : x_G) (vs : List Value) (v : Option Value) : Prop := ∀ l : Launch, Met l μ.1 (x_w μ) (x_rm d μ) (va_Pc vs (fun U => x_K G U)) (x_JQ v) 0 0 (x_A G)
def x_Cj (G : x_G) (p : Program) (s : State) (m : MethodId) (args : Array Value) (meth : Method) (c : Code) (μ : x_M) : Prop :=
  p.tables.exec = Jvm.exec ∧ c.code = μ.2.1 ∧ meth.sig.returnType = μ.2.2.2.1 ∧ c.maxLocals = μ.2.2.1 ∧ s.vm.findClass μ.1.cls = some m.cls ∧ meth.locks = false ∧ (∀ w ∈ x_w μ, w.before args s = true) ∧ x_K G s
def x_Jj (d : Nat) (μ : x_M) (v : Option Value) (G : x_G) (pc : Nat) (L : List (Nat × Value)) (st : List Value) : Prop := ∀ (l : Launch) (p : Program) (e : Env) (s : State) (m : MethodId) (args : Array Value) (below : List Frame) (meth : Method) (c : Code), x_Cj G p s m args meth c μ →
  ∀ (locs : List Loc) (ls : Array Slot), va_S (x_A G) s.heap s.heap locs → lv_has ls μ.2.2.1 L → W p l e (x_rm d μ) s m args below meth c s.heap locs 0 0 (MQ below (x_JQ v) args s 0 0 (x_A G)) (F0 m pc ls st)
section XJ
variable {d : Nat} {μ : x_M} {v : Option Value} {G : x_G} {pc : Nat} {L L' : List (Nat × Value)} {st st' : List Value}
theorem x_Jof {vs : List Value} (hy : plainName μ.1.cls = true) (hlen : (lg_sl vs).length ≤ μ.2.2.1) (h : x_Jj d μ v G 0 (lv_args 0 vs) []) : x_JM d μ G vs v := by
  intro l
  refine Met.ofW (cc := μ.2.1) (maxL := μ.2.2.1) (ret := μ.2.2.2.1) hy rfl ?_
  intro p e s m args below meth c s₁ B hml hv
  obtain ⟨rfl, hK⟩ := hv
  have hts := atoms_spec (ws := x_w μ) B.pre
  have hown : s.vm.findClass μ.1.cls = some m.cls := findClass_of_methodNamed B.named
  have hl := lv_entry vs (n := μ.2.2.1) hlen
  rw [lg_entry_eq]
  generalize (lg_sl vs ++ List.replicate (μ.2.2.1 - (lg_sl vs).length) Slot.unset).toArray = ls at hl ⊢
  exact h l p e s m vs.toArray below meth c ⟨B.exec, B.bytes, B.returns, hml, hown, B.notSynchronized, hts, hK⟩ [] ls va_S.rf hl
theorem x_wj {p : Program} {s : State} {m : MethodId} {args : Array Value} {meth : Method} {c : Code} (C : x_Cj G p s m args meth c μ) {w : Cond} (h : w ∈ x_tb) : w.before args s = true := C.2.2.2.2.2.2.1 w (List.mem_cons_of_mem _ h)
theorem J_aload {k : Fin 4} {x : Nat} (j : Nat) (hd : decode μ.2.1 pc = .ok (.aload_n k, 1)) (hL : L[j]? = some ((k : Nat), .ref x)) (h : x_Jj d μ v G (pc + 1) L (.ref x :: st)) : x_Jj d μ v G pc L st := by
  intro l p e s m args below meth c C locs ls hS hl
  exact lv_aload_n C.1 C.2.1 hd rfl (lv_at hl j hL) (h l p e s m args below meth c C locs ls hS hl)
theorem J_iload_n {k : Fin 4} {x : Int32} (j : Nat) (hd : decode μ.2.1 pc = .ok (.iload_n k, 1)) (hL : L[j]? = some ((k : Nat), .int x)) (h : x_Jj d μ v G (pc + 1) L (.int x :: st)) : x_Jj d μ v G pc L st := by
  intro l p e s m args below meth c C locs ls hS hl
  exact lv_iload_n C.1 C.2.1 hd rfl (lv_at hl j hL) (h l p e s m args below meth c C locs ls hS hl)
theorem J_iload {k : Nat} {x : Int32} (j : Nat) (hd : decode μ.2.1 pc = .ok (.iload k, 2)) (hL : L[j]? = some (k, .int x)) (h : x_Jj d μ v G (pc + 2) L (.int x :: st)) : x_Jj d μ v G pc L st := by
  intro l p e s m args below meth c C locs ls hS hl
  exact lv_iload C.1 C.2.1 hd (lv_at hl j hL) (h l p e s m args below meth c C locs ls hS hl)
theorem J_istore_n {k : Fin 4} {x : Int32} (hd : decode μ.2.1 pc = .ok (.istore_n k, 1)) (hn : (k : Nat) < μ.2.2.1) (hL : ((k : Nat), Value.int x) :: L.filter (fun q => !(q.1 == (k : Nat)) && !(q.1 + 1 == (k : Nat) && q.2.category == 2)) = L') (h : x_Jj d μ v G (pc + 1) L' st) : x_Jj d μ v G pc L (.int x :: st) := by
  intro l p e s m args below meth c C locs ls hS hl
  exact lv_istore_n C.1 C.2.1 hd rfl hl hn hL (fun ls' hl' => h l p e s m args below meth c C locs ls' hS hl')
theorem J_istore {k : Nat} {x : Int32} (hd : decode μ.2.1 pc = .ok (.istore k, 2)) (hn : k < μ.2.2.1) (hL : (k, Value.int x) :: L.filter (fun q => !(q.1 == k) && !(q.1 + 1 == k && q.2.category == 2)) = L') (h : x_Jj d μ v G (pc + 2) L' st) : x_Jj d μ v G pc L (.int x :: st) := by
  intro l p e s m args below meth c C locs ls hS hl
  exact lv_istore C.1 C.2.1 hd hl hn hL (fun ls' hl' => h l p e s m args below meth c C locs ls' hS hl')
theorem J_iinc {i : Nat} {n : Int} {x y : Int32} (j : Nat) (hd : decode μ.2.1 pc = .ok (.iinc i n, 3)) (hj : L[j]? = some (i, .int x)) (hv : x + Int32.ofInt n = y) (hn : i < μ.2.2.1) (hL : (i, Value.int y) :: L.filter (fun q => !(q.1 == i) && !(q.1 + 1 == i && q.2.category == 2)) = L') (h : x_Jj d μ v G (pc + 3) L' st) : x_Jj d μ v G pc L st := by
  intro l p e s m args below meth c C locs ls hS hl
  exact lv_iinc C.1 C.2.1 hd hl hj hv hn hL (fun ls' hl' => h l p e s m args below meth c C locs ls' hS hl')
theorem J_iconst {n : Int} {x : Int32} (hd : decode μ.2.1 pc = .ok (.iconst n, 1)) (hv : Int32.ofInt n = x) (h : x_Jj d μ v G (pc + 1) L (.int x :: st)) : x_Jj d μ v G pc L st := by
  intro l p e s m args below meth c C locs ls hS hl
  exact lv_iconst C.1 C.2.1 hd hv (h l p e s m args below meth c C locs ls hS hl)
theorem J_sipush {n : Int} {x : Int32} (hd : decode μ.2.1 pc = .ok (.sipush n, 3)) (hv : (Int16.ofInt n).toInt32 = x) (h : x_Jj d μ v G (pc + 3) L (.int x :: st)) : x_Jj d μ v G pc L st := by
  intro l p e s m args below meth c C locs ls hS hl
  exact lv_sipush C.1 C.2.1 hd hv (h l p e s m args below meth c C locs ls hS hl)
theorem J_ishr {x y : Int32} (hd : decode μ.2.1 pc = .ok (.ishr, 1)) (h : x_Jj d μ v G (pc + 1) L (.int (x >>> (y &&& 31)) :: st)) : x_Jj d μ v G pc L (.int y :: .int x :: st) := by
  intro l p e s m args below meth c C locs ls hS hl
  exact lv_ishr C.1 C.2.1 hd (h l p e s m args below meth c C locs ls hS hl)
theorem J_iand {x y : Int32} (hd : decode μ.2.1 pc = .ok (.iand, 1)) (h : x_Jj d μ v G (pc + 1) L (.int (x &&& y) :: st)) : x_Jj d μ v G pc L (.int y :: .int x :: st) := by
  intro l p e s m args below meth c C locs ls hS hl
  exact lv_iand C.1 C.2.1 hd (h l p e s m args below meth c C locs ls hS hl)
theorem J_i2c {x : Int32} (hd : decode μ.2.1 pc = .ok (.i2c, 1)) (h : x_Jj d μ v G (pc + 1) L (.int ((x.toUInt32 % 65536).toInt32) :: st)) : x_Jj d μ v G pc L (.int x :: st) := by
  intro l p e s m args below meth c C locs ls hS hl
  exact lv_i2c C.1 C.2.1 hd rfl (h l p e s m args below meth c C locs ls hS hl)
theorem J_i2b {x : Int32} (hd : decode μ.2.1 pc = .ok (.i2b, 1)) (h : x_Jj d μ v G (pc + 1) L (.int (x.toInt8.toInt32) :: st)) : x_Jj d μ v G pc L (.int x :: st) := by
  intro l p e s m args below meth c C locs ls hS hl
  exact lv_i2b C.1 C.2.1 hd rfl (h l p e s m args below meth c C locs ls hS hl)
theorem J_icmp_eq {x y : Int32} {off : Int} (tgt : Nat) (hd : decode μ.2.1 pc = .ok (.if_icmp .eq off, 3)) (ht : (pc : Int) + off = (tgt : Int)) (kt : x = y → x_Jj d μ v G tgt L st) (kf : ¬ x = y → x_Jj d μ v G (pc + 3) L st) : x_Jj d μ v G pc L (.int y :: .int x :: st) := by
  intro l p e s m args below meth c C locs ls hS hl
  exact lv_icmp_eq C.1 C.2.1 hd ht (fun q => kt q l p e s m args below meth c C locs ls hS hl) (fun q => kf q l p e s m args below meth c C locs ls hS hl)
theorem J_if_eq {x : Int32} {off : Int} (tgt : Nat) (hd : decode μ.2.1 pc = .ok (.ifCond .eq off, 3)) (ht : (pc : Int) + off = (tgt : Int)) (kt : x = 0 → x_Jj d μ v G tgt L st) (kf : ¬ x = 0 → x_Jj d μ v G (pc + 3) L st) : x_Jj d μ v G pc L (.int x :: st) := by
  intro l p e s m args below meth c C locs ls hS hl
  exact lv_if_eq C.1 C.2.1 hd ht (fun q => kt q l p e s m args below meth c C locs ls hS hl) (fun q => kf q l p e s m args below meth c C locs ls hS hl)
theorem J_icmp_ne {x y : Int32} {off : Int} (tgt : Nat) (hd : decode μ.2.1 pc = .ok (.if_icmp .ne off, 3)) (ht : (pc : Int) + off = (tgt : Int)) (kt : ¬ x = y → x_Jj d μ v G tgt L st) (kf : x = y → x_Jj d μ v G (pc + 3) L st) : x_Jj d μ v G pc L (.int y :: .int x :: st) := by
  intro l p e s m args below meth c C locs ls hS hl
  exact lv_icmp_ne C.1 C.2.1 hd ht (fun q => kt q l p e s m args below meth c C locs ls hS hl) (fun q => kf q l p e s m args below meth c C locs ls hS hl)
theorem J_if_ne {x : Int32} {off : Int} (tgt : Nat) (hd : decode μ.2.1 pc = .ok (.ifCond .ne off, 3)) (ht : (pc : Int) + off = (tgt : Int)) (kt : ¬ x = 0 → x_Jj d μ v G tgt L st) (kf : x = 0 → x_Jj d μ v G (pc + 3) L st) : x_Jj d μ v G pc L (.int x :: st) := by
  intro l p e s m args below meth c C locs ls hS hl
  exact lv_if_ne C.1 C.2.1 hd ht (fun q => kt q l p e s m args below meth c C locs ls hS hl) (fun q => kf q l p e s m args below meth c C locs ls hS hl)
theorem J_icmp_lt {x y : Int32} {off : Int} (tgt : Nat) (hd : decode μ.2.1 pc = .ok (.if_icmp .lt off, 3)) (ht : (pc : Int) + off = (tgt : Int)) (kt : x < y → x_Jj d μ v G tgt L st) (kf : ¬ x < y → x_Jj d μ v G (pc + 3) L st) : x_Jj d μ v G pc L (.int y :: .int x :: st) := by
  intro l p e s m args below meth c C locs ls hS hl
  exact lv_icmp_lt C.1 C.2.1 hd ht (fun q => kt q l p e s m args below meth c C locs ls hS hl) (fun q => kf q l p e s m args below meth c C locs ls hS hl)
theorem J_if_lt {x : Int32} {off : Int} (tgt : Nat) (hd : decode μ.2.1 pc = .ok (.ifCond .lt off, 3)) (ht : (pc : Int) + off = (tgt : Int)) (kt : x < 0 → x_Jj d μ v G tgt L st) (kf : ¬ x < 0 → x_Jj d μ v G (pc + 3) L st) : x_Jj d μ v G pc L (.int x :: st) := by
  intro l p e s m args below meth c C locs ls hS hl
  exact lv_if_lt C.1 C.2.1 hd ht (fun q => kt q l p e s m args below meth c C locs ls hS hl) (fun q => kf q l p e s m args below meth c C locs ls hS hl)
theorem J_icmp_ge {x y : Int32} {off : Int} (tgt : Nat) (hd : decode μ.2.1 pc = .ok (.if_icmp .ge off, 3)) (ht : (pc : Int) + off = (tgt : Int)) (kt : y ≤ x → x_Jj d μ v G tgt L st) (kf : ¬ y ≤ x → x_Jj d μ v G (pc + 3) L st) : x_Jj d μ v G pc L (.int y :: .int x :: st) := by
  intro l p e s m args below meth c C locs ls hS hl
  exact lv_icmp_ge C.1 C.2.1 hd ht (fun q => kt q l p e s m args below meth c C locs ls hS hl) (fun q => kf q l p e s m args below meth c C locs ls hS hl)
theorem J_if_ge {x : Int32} {off : Int} (tgt : Nat) (hd : decode μ.2.1 pc = .ok (.ifCond .ge off, 3)) (ht : (pc : Int) + off = (tgt : Int)) (kt : 0 ≤ x → x_Jj d μ v G tgt L st) (kf : ¬ 0 ≤ x → x_Jj d μ v G (pc + 3) L st) : x_Jj d μ v G pc L (.int x :: st) := by
  intro l p e s m args below meth c C locs ls hS hl
  exact lv_if_ge C.1 C.2.1 hd ht (fun q => kt q l p e s m args below meth c C locs ls hS hl) (fun q => kf q l p e s m args below meth c C locs ls hS hl)
theorem J_icmp_gt {x y : Int32} {off : Int} (tgt : Nat) (hd : decode μ.2.1 pc = .ok (.if_icmp .gt off, 3)) (ht : (pc : Int) + off = (tgt : Int)) (kt : y < x → x_Jj d μ v G tgt L st) (kf : ¬ y < x → x_Jj d μ v G (pc + 3) L st) : x_Jj d μ v G pc L (.int y :: .int x :: st) := by
  intro l p e s m args below meth c C locs ls hS hl
  exact lv_icmp_gt C.1 C.2.1 hd ht (fun q => kt q l p e s m args below meth c C locs ls hS hl) (fun q => kf q l p e s m args below meth c C locs ls hS hl)
theorem J_if_gt {x : Int32} {off : Int} (tgt : Nat) (hd : decode μ.2.1 pc = .ok (.ifCond .gt off, 3)) (ht : (pc : Int) + off = (tgt : Int)) (kt : 0 < x → x_Jj d μ v G tgt L st) (kf : ¬ 0 < x → x_Jj d μ v G (pc + 3) L st) : x_Jj d μ v G pc L (.int x :: st) := by
  intro l p e s m args below meth c C locs ls hS hl
  exact lv_if_gt C.1 C.2.1 hd ht (fun q => kt q l p e s m args below meth c C locs ls hS hl) (fun q => kf q l p e s m args below meth c C locs ls hS hl)
theorem J_goto {off : Int} (tgt : Nat) (hd : decode μ.2.1 pc = .ok (.goto off, 3)) (ht : (pc : Int) + off = (tgt : Int)) (h : x_Jj d μ v G tgt L st) : x_Jj d μ v G pc L st := by
  intro l p e s m args below meth c C locs ls hS hl
  exact lv_goto C.1 C.2.1 hd ht (h l p e s m args below meth c C locs ls hS hl)
theorem J_pop {x : Int32} (hd : decode μ.2.1 pc = .ok (.pop, 1)) (h : x_Jj d μ v G (pc + 1) L st) : x_Jj d μ v G pc L (.int x :: st) := by
  intro l p e s m args below meth c C locs ls hS hl
  exact lv_pop C.1 C.2.1 hd rfl (h l p e s m args below meth c C locs ls hS hl)
theorem J_comp (hcl : μ.1.cls = "java/lang/String") (hd : decode μ.2.1 pc = .ok (.getstatic 38, 3)) (h : x_Jj d μ v G (pc + 3) L (.int 1 :: st)) : x_Jj d μ v G pc L st := by
  intro l p e s m args below meth c C locs ls hS hl
  exact va_gets C.1 C.2.1 C.2.2.2.2.2.2.2.2.2.2.1 hS (own := "java/lang/String") (ref := "java/lang/String") (by rw [← hcl]; exact C.2.2.2.2.1) (x_wj C jf_comp) (fun _ h => h) hd (h l p e s m args below meth c C locs ls hS hl)
theorem J_value {i : Nat} (hi : i < 2) (hcl : μ.1.cls = "java/lang/String") (hd : decode μ.2.1 pc = .ok (.getfield 9, 3)) (h : x_Jj d μ v G (pc + 3) L (.ref (G.2.2.2.2.2 i) :: st)) : x_Jj d μ v G pc L (.ref (G.2.2.2.2.1 i) :: st) := by
  intro l p e s m args below meth c C locs ls hS hl
  exact vk_getf C.1 C.2.1 (C.2.2.2.2.2.2.2.2.2.2.2.1.1 i hi).2.2.1 hS (own := "java/lang/String") (ref := "java/lang/String") (by rw [← hcl]; exact C.2.2.2.2.1) (x_wj C jf_value) (fun _ h => h) hd (h l p e s m args below meth c C locs ls hS hl)
theorem J_coder {i : Nat} (hi : i < 2) (hcl : μ.1.cls = "java/lang/String") (hd : decode μ.2.1 pc = .ok (.getfield 15, 3)) (h : x_Jj d μ v G (pc + 3) L (.int 0 :: st)) : x_Jj d μ v G pc L (.ref (G.2.2.2.2.1 i) :: st) := by
  intro l p e s m args below meth c C locs ls hS hl
  exact vk_getf C.1 C.2.1 (C.2.2.2.2.2.2.2.2.2.2.2.1.1 i hi).2.1 hS (own := "java/lang/String") (ref := "java/lang/String") (by rw [← hcl]; exact C.2.2.2.2.1) (x_wj C jf_coder) (fun _ h => h) hd (h l p e s m args below meth c C locs ls hS hl)
theorem J_alen {i : Nat} (hi : i < 2) (hd : decode μ.2.1 pc = .ok (.arraylength, 1)) (h : x_Jj d μ v G (pc + 1) L (.int (Int32.ofNat ([160, 11].getD i 0)) :: st)) : x_Jj d μ v G pc L (.ref (G.2.2.2.2.2 i) :: st) := by
  intro l p e s m args below meth c C locs ls hS hl
  exact va_tlen C.1 C.2.1 (C.2.2.2.2.2.2.2.2.2.2.2.1.1 i hi).2.2.2 hS rfl hd (h l p e s m args below meth c C locs ls hS hl)
theorem J_bald {i : Nat} {x : Int32} (hi : i < 2) (hx : vp_in x ([160, 11].getD i 0)) (hd : decode μ.2.1 pc = .ok (.baload, 1)) (h : x_Jj d μ v G (pc + 1) L (.int (([x_words, x_signs].getD i []).getD x.toNatClampNeg 0) :: st)) : x_Jj d μ v G pc L (.int x :: .ref (G.2.2.2.2.2 i) :: st) := by
  intro l p e s m args below meth c C locs ls hS hl
  exact va_tb C.1 C.2.1 (C.2.2.2.2.2.2.2.2.2.2.2.1.1 i hi).2.2.2 hS hx rfl hd (h l p e s m args below meth c C locs ls hS hl)
theorem J_iret {x : Int32} {ty : FieldType} (hr : μ.2.2.2.1 = some ty) (hn : narrow ty (.int x) = .int x) (hd : decode μ.2.1 pc = .ok (.ireturn, 1)) (hv : v = some (.int x)) : x_Jj d μ v G pc L [.int x] := by
  intro l p e s m args below meth c C locs ls hS hl
  exact W.zret C.1 C.2.1 (C.2.2.1.trans hr) hn (fun t ht _ => ⟨by rw [hv], ht⟩) hS.2.2 hd C.2.2.2.2.2.1
theorem J_vret (hr : μ.2.2.2.1 = none) (hd : decode μ.2.1 pc = .ok (.return_, 1)) (hv : v = none) : x_Jj d μ v G pc L [] := by
  intro l p e s m args below meth c C locs ls hS hl
  exact W.vret C.1 C.2.1 (C.2.2.1.trans hr) (fun t ht _ => ⟨by rw [hv], ht⟩) hS.2.2 hd C.2.2.2.2.2.1
theorem x_Jrun {p : Program} {l : Launch} {e : Env} {R : Room} {s : State} {m : MethodId} {args : Array Value} {below : List Frame} {meth : Method} {c : Code} {H : Heap} {locs : List Loc} {cells slots : Nat} {Q0 : State → Prop} {ls : Array Slot} {st0 rest : List Value} {w : Option Value} {a : Array Value} (hr : va_Run p l e R s m args below meth c H locs cells slots 0 0 (F0 m pc ls st0) rest (x_JQ w a) (x_A G)) (hS : va_S (x_A G) s.heap H locs)
    (kk : ∀ locs1 : List Loc, va_S (x_A G) s.heap H locs1 → W p l e R s m args below meth c H locs1 cells slots Q0 (F0 m (pc + 3) ls (w.toList ++ rest))) : W p l e R s m args below meth c H locs cells slots Q0 (F0 m pc ls st0) := by
  intro T hT X
  obtain ⟨v', st₀, t, T', L1, g0, X', hL, e1, e2, ⟨ho, hh⟩, go⟩ := hr T hT X
  have hv : v' = w := Outcome.returned.inj ho
  subst hv
  have hS' : va_S (x_A G) s.heap H (locs ++ L1) := ⟨hS.1, hS.2.1, fun q hq => by
    rcases List.mem_append.mp hq with h | h
    · exact hS.2.2 q h
    · exact hL q h⟩
  obtain ⟨t2, a1, b1⟩ := kk (locs ++ L1) hS' T' (by rw [e1, hh, g0]) X'
  exact ⟨t2, go t2 a1, b1⟩
theorem x_blindJ {vs : List Value} : FrameBlind (va_Pc vs (fun U => x_K G U)) := by
  intro a U g mk q
  obtain ⟨q0, q3, q4⟩ := q
  exact ⟨q0, va_K.moved (u := U) (U := U.calling g mk a) (Vm.Alike.refl U.vm) q3, x_Z.same rfl rfl q4⟩
theorem x_enterJ {s U : State} {H : Heap} {locs : List Loc} (hK : x_K G s) (hS : va_S (x_A G) s.heap H locs) (hU : U.heap = H) (hV : s.WarmedH U.vm) : x_K G U := ⟨va_K.moved hV.alike hK.1, x_Z.warm hV (by rw [hU]; exact hS.1) (fun a h1 h2 => by rw [hU]; exact hS.2.1 a h1 h2) hK.2⟩
theorem J_callS {μ' : x_M} {n i : Nat} {vs : List Value} {w : Option Value} (hd : decode μ.2.1 pc = .ok (.invokestatic i, 3)) (hl' : Cond.methodLink μ.1.cls i μ'.1 ∈ x_tb) (hk : x_cok μ' n) (hst' : Cond.static μ'.1 ∈ x_tb) (hst : st' = vs.reverse ++ st) (hn : vs.length = n) (hcat : (st.map fun v => v.category).sum ≤ 8) (hμ : μ'.2.2.2.2 = (0, 0)) (hm : μ.2.2.2.2 = (0, 0)) (hM : x_JM d μ' G vs w) (h : x_Jj (d + 1) μ v G (pc + 3) L (w.toList ++ st)) : x_Jj (d + 1) μ v G pc L st' := by
  intro l p e s m args below meth c C locs ls hS hl
  obtain ⟨ki, kc, kd, km⟩ := hk
  have e1 : μ'.2.2.2.2.1 = 0 := by rw [hμ]
  have e2 : μ'.2.2.2.2.2 = 0 := by rw [hμ]
  exact x_Jrun (va_runS (nL := μ.2.2.1) (own := μ.1.cls) ⟨C.1, C.2.1, C.2.2.2.1, C.2.2.2.2.1, C.2.2.2.2.2.2.1⟩ (hM l)
    ⟨callB_of n C.2.2.2.2.2.2.1 (x_good kc) rfl e1 e2 (x_wj C ki) (x_wj C hl') kd ⟨by show d + 1 ≤ d + 1; omega, by show 8 + (μ'.2.2.1 + 11) + 40 * d ≤ 40 * (d + 1); omega⟩, x_wj C hst'⟩
    ⟨x_blindJ, fun U hU hV => ⟨rfl, x_enterJ C.2.2.2.2.2.2.2 hS hU hV⟩⟩ rfl hn hl.1 hst (lv_room hcat) hd ⟨Nat.zero_le _, Nat.zero_le _⟩) hS (fun locs1 hS1 => h l p e s m args below meth c C locs1 ls hS1 hl)
theorem J_callV {μ' : x_M} {n i b : Nat} {vs : List Value} {w : Option Value} (hb : b < 2) (hd : decode μ.2.1 pc = .ok (.invokevirtual i, 3)) (hl' : Cond.methodLink μ.1.cls i μ'.1 ∈ x_tb) (hk : x_vok μ' n) (hC : μ'.1.cls = "java/lang/String") (hst : st' = vs.reverse ++ .ref (G.2.2.2.2.1 b) :: st) (hn : vs.length = n) (hcat : (st.map fun v => v.category).sum ≤ 8) (hm : μ.2.2.2.2 = (0, 0)) (hM : x_JM d μ' G (.ref (G.2.2.2.2.1 b) :: vs) w) (h : x_Jj (d + 1) μ v G (pc + 3) L (w.toList ++ st)) : x_Jj (d + 1) μ v G pc L st' := by
  intro l p e s m args below meth c C locs ls hS hl
  obtain ⟨⟨ki, kc, kd, km⟩, kin, ksel, k0⟩ := hk
  have e1 : μ'.2.2.2.2.1 = 0 := by rw [k0]
  have e2 : μ'.2.2.2.2.2 = 0 := by rw [k0]
  exact x_Jrun (va_runV (nL := μ.2.2.1) (own := μ.1.cls) (C := "java/lang/String") ⟨C.1, C.2.1, C.2.2.2.1, C.2.2.2.2.1, C.2.2.2.2.2.2.1⟩ (hM l)
    (cwV n C.2.2.2.2.2.2.1 (by
      intro w hw
      unfold wsV at hw
      rcases List.mem_append.mp hw with hw | hw
      · refine x_goodL (ws := [.methodLink μ.1.cls i μ'.1, .instanceMethod μ'.1, .selects "java/lang/String" μ'.1 μ'.1, .initialized "java/lang/String"]) (fun w hw => ?_) w hw
        rw [← hC] at hw
        simp only [List.mem_cons, List.not_mem_nil, or_false] at hw
        rcases hw with rfl | rfl | rfl | rfl
        · exact hl'
        · exact kin
        · exact ksel
        · exact ki
      · exact x_good kc w hw) rfl e1 e2 ⟨hC, kd⟩ ⟨by show d + 1 ≤ d + 1; omega, by show 8 + (μ'.2.2.1 + 11) + 40 * d ≤ 40 * (d + 1); omega⟩)
    ⟨x_blindJ, vk_recv C.2.2.2.2.2.2.2.2.2.2.2.1 hb hS, fun U hU hV => ⟨rfl, x_enterJ C.2.2.2.2.2.2.2 hS hU hV⟩⟩ rfl hn hl.1 hst (lv_room hcat) hd ⟨Nat.zero_le _, Nat.zero_le _⟩) hS (fun locs1 hS1 => h l p e s m args below meth c C locs1 ls hS1 hl)
theorem J_max {i : Nat} {x y : Int32} (hd : decode μ.2.1 pc = .ok (.invokestatic i, 3)) (hl' : Cond.methodLink μ.1.cls i Lib.Math.max.name ∈ x_tb) (hcat : (st.map fun v => v.category).sum ≤ 8) (h : x_Jj (d + 1) μ v G (pc + 3) L (.int (if x < y then y else x) :: st)) : x_Jj (d + 1) μ v G pc L (.int y :: .int x :: st) := by
  intro l p e s m args below meth c C locs ls hS hl
  exact va_mmax C.1 C.2.1 (C.2.2.2.1.trans hl.1.symm) C.2.2.2.2.1 (x_wj C hl') (x_wj C lm_max.1) (x_wj C lm_max.2.1) (x_wj C lm_max.2.2) (by show 1 ≤ d + 1; omega) (by show _ ≤ 40 * (d + 1); omega) (Nat.zero_le _) (Nat.zero_le _) hd (h l p e s m args below meth c C locs ls hS hl)
theorem J_min {i : Nat} {x y : Int32} (hd : decode μ.2.1 pc = .ok (.invokestatic i, 3)) (hl' : Cond.methodLink μ.1.cls i Lib.Math.min.name ∈ x_tb) (hcat : (st.map fun v => v.category).sum ≤ 8) (h : x_Jj (d + 1) μ v G (pc + 3) L (.int (if y < x then y else x) :: st)) : x_Jj (d + 1) μ v G pc L (.int y :: .int x :: st) := by
  intro l p e s m args below meth c C locs ls hS hl
  exact va_mmin C.1 C.2.1 (C.2.2.2.1.trans hl.1.symm) C.2.2.2.2.1 (x_wj C hl') (x_wj C lm_min.1) (x_wj C lm_min.2.1) (x_wj C lm_min.2.2) (by show 1 ≤ d + 1; omega) (by show _ ≤ 40 * (d + 1); omega) (Nat.zero_le _) (Nat.zero_le _) hd (h l p e s m args below meth c C locs ls hS hl)
/-- the formatter, whatever it is, then the check's call -/
theorem J_fmt {x y : Int32} {w : Option Value} (hcl : μ.1.cls = "java/lang/String") (d1 : decode μ.2.1 pc = .ok (.getstatic 1053, 3)) (d2 : decode μ.2.1 (pc + 3) = .ok (.invokestatic 1059, 3)) (hM : ∀ f : Value, f.category = 1 → x_JM d mj_chkP G [.int x, .int y, f] w) (hcat : (st.map fun v => v.category).sum ≤ 8) (hm : μ.2.2.2.2 = (0, 0)) (h : x_Jj (d + 1) μ v G (pc + 3 + 3) L (w.toList ++ st)) : x_Jj (d + 1) μ v G pc L (.int y :: .int x :: st) := by
  intro l p e s m args below meth c C locs ls hS hl
  have go : ∀ f : Value, f.category = 1 → W p l e (x_rm (d + 1) μ) s m args below meth c s.heap locs 0 0 (MQ below (x_JQ v) args s 0 0 (x_A G)) (F0 m (pc + 3) ls (f :: .int y :: .int x :: st)) := fun f hf => J_callS (vs := [.int x, .int y, f]) d2 (by rw [hcl]; exact jl_S_1059) jok_chkP jst_chkP rfl rfl hcat rfl hm (hM f hf) h l p e s m args below meth c C locs ls hS hl
  have hz := C.2.2.2.2.2.2.2.2.2.2.2.2.2.2.2.2.2.2
  rcases hz with hz | ⟨t, hz⟩
  · exact va_gets C.1 C.2.1 hz hS (own := "java/lang/String") (ref := "jdk/internal/util/Preconditions") (by rw [← hcl]; exact C.2.2.2.2.1) (x_wj C jf_fmt) (fun _ h => h) d1 (go .null rfl)
  · exact va_gets C.1 C.2.1 hz hS (own := "java/lang/String") (ref := "jdk/internal/util/Preconditions") (by rw [← hcl]; exact C.2.2.2.2.1) (x_wj C jf_fmt) (fun _ h => h) d1 (go (.ref t) rfl)
end XJ
theorem j_coder {d : Nat} {G : x_G} {i : Nat} (hi : i < 2) : x_JM d mj_coder G [.ref (G.2.2.2.2.1 i)] (some (.int 0)) := by
  refine x_Jof (by decide) (Nat.le_of_ble_eq_true rfl) ?_
  refine J_comp rfl (by decide +kernel) ?_
  refine J_if_eq (off := 10) 13 (by decide +kernel) (by decide) (fun q => absurd q (by decide)) (fun _ => ?_)
  refine J_aload (k := 0) 0 (by decide +kernel) rfl ?_
  refine J_coder hi rfl (by decide +kernel) ?_
  refine J_goto (off := 4) 14 (by decide +kernel) (by decide) ?_
  exact J_iret (ty := .byte) rfl (by decide) (by decide +kernel) rfl
theorem j_isL {d : Nat} {G : x_G} {i : Nat} (hi : i < 2) : x_JM d mj_isL G [.ref (G.2.2.2.2.1 i)] (some (.int 1)) := by
  refine x_Jof (by decide) (Nat.le_of_ble_eq_true rfl) ?_
  refine J_comp rfl (by decide +kernel) ?_
  refine J_if_eq (off := 14) 17 (by decide +kernel) (by decide) (fun q => absurd q (by decide)) (fun _ => ?_)
  refine J_aload (k := 0) 0 (by decide +kernel) rfl ?_
  refine J_coder hi rfl (by decide +kernel) ?_
  refine J_if_ne (off := 7) 17 (by decide +kernel) (by decide) (fun q => absurd rfl q) (fun _ => ?_)
  refine J_iconst (n := 1) (x := 1) (by decide +kernel) (by decide) ?_
  refine J_goto (off := 4) 18 (by decide +kernel) (by decide) ?_
  exact J_iret (ty := .boolean) rfl (by decide) (by decide +kernel) rfl
theorem j_len {d : Nat} {G : x_G} {i : Nat} (hi : i < 2) : x_JM (d + 1) mj_len G [.ref (G.2.2.2.2.1 i)] (some (.int (nI ([160, 11].getD i 0)))) := by
  refine x_Jof (by decide) (Nat.le_of_ble_eq_true rfl) ?_
  refine J_aload (k := 0) 0 (by decide +kernel) rfl ?_
  refine J_value hi rfl (by decide +kernel) ?_
  refine J_alen hi (by decide +kernel) ?_
  refine J_aload (k := 0) 0 (by decide +kernel) rfl ?_
  refine J_callV (μ' := mj_coder) (vs := []) hi (by decide +kernel) jl_S_335 jvk_coder rfl rfl rfl (Nat.le_of_ble_eq_true rfl) rfl (j_coder hi) ?_
  refine J_ishr (by decide +kernel) ?_
  refine J_iret (ty := .int) rfl rfl (by decide +kernel) ?_
  match i, hi with
  | 0, _ => decide
  | 1, _ => decide
theorem j_chkP {d : Nat} {G : x_G} {x y : Int32} (h0 : ¬ x < 0) (h1 : x < y) (f : Value) (hf : f.category = 1) : x_JM d mj_chkP G [.int x, .int y, f] (some (.int x)) := by
  refine x_Jof (by decide) (by cases f <;> first | exact Nat.le_of_ble_eq_true rfl | (simp [Value.category] at hf)) ?_
  refine J_iload_n (k := 0) 0 (by decide +kernel) rfl ?_
  refine J_if_lt (off := 8) 9 (by decide +kernel) (by decide) (fun q => absurd q h0) (fun _ => ?_)
  refine J_iload_n (k := 0) 0 (by decide +kernel) rfl ?_
  refine J_iload_n (k := 1) 1 (by decide +kernel) rfl ?_
  refine J_icmp_lt (off := 10) 16 (by decide +kernel) (by decide) (fun _ => ?_) (fun q => absurd h1 q)
  refine J_iload_n (k := 0) 0 (by decide +kernel) rfl ?_
  exact J_iret (ty := .int) rfl rfl (by decide +kernel) rfl
theorem j_chk {d : Nat} {G : x_G} {x y : Int32} (h0 : ¬ x < 0) (h1 : x < y) : x_JM (d + 1) mj_chk G [.int x, .int y] none := by
  refine x_Jof (by decide) (Nat.le_of_ble_eq_true rfl) ?_
  refine J_iload_n (k := 0) 0 (by decide +kernel) rfl ?_
  refine J_iload_n (k := 1) 1 (by decide +kernel) rfl ?_
  refine J_fmt rfl (by decide +kernel) (by decide +kernel) (j_chkP h0 h1) (Nat.le_of_ble_eq_true rfl) rfl ?_
  refine J_pop (by decide +kernel) ?_
  exact J_vret rfl (by decide +kernel) rfl
/-- a text's char, as charAt answers it -/
def x_ch (i k : Nat) : Int32 := (((([x_words, x_signs].getD i []).getD k 0) &&& 255).toUInt32 % 65536).toInt32
theorem x_chn : ∀ i, i < 2 → ∀ k, k < 160 → narrow .char (.int (x_ch i k)) = .int (x_ch i k) := by decide +kernel
theorem x_len2 {i : Nat} (hi : i < 2) : [160, 11].getD i 0 ≤ 160 := by
  match i, hi with
  | 0, _ => decide
  | 1, _ => decide
theorem j_cAt1 {d : Nat} {G : x_G} {i k : Nat} (hi : i < 2) (hk : k < [160, 11].getD i 0) : x_JM (d + 1 + 1) mj_cAt1 G [.ref (G.2.2.2.2.2 i), .int (nI k)] (some (.int (x_ch i k))) := by
  have h160 := x_len2 hi
  refine x_Jof (by decide) (Nat.le_of_ble_eq_true rfl) ?_
  refine J_iload_n (k := 1) 1 (by decide +kernel) rfl ?_
  refine J_aload (k := 0) 0 (by decide +kernel) rfl ?_
  refine J_alen hi (by decide +kernel) ?_
  refine J_callS (μ' := mj_chk) (vs := [.int (nI k), .int (Int32.ofNat ([160, 11].getD i 0))]) (by decide +kernel) jl_L_9 jok_chk jst_chk rfl rfl (Nat.le_of_ble_eq_true rfl) rfl rfl (j_chk (nI_pos (by omega)) (nI_lt hk (by omega))) ?_
  refine J_aload (k := 0) 0 (by decide +kernel) rfl ?_
  refine J_iload_n (k := 1) 1 (by decide +kernel) rfl ?_
  refine J_bald hi (vp_in_nI hk (by omega)) (by decide +kernel) ?_
  refine J_sipush (n := 255) (x := 255) (by decide +kernel) (by decide) ?_
  refine J_iand (by decide +kernel) ?_
  refine J_i2c (by decide +kernel) ?_
  rw [nI_clamp (by omega)]
  exact J_iret (ty := .char) rfl (x_chn i hi k (by omega)) (by decide +kernel) rfl
theorem j_charAt {d : Nat} {G : x_G} {i k : Nat} (hi : i < 2) (hk : k < [160, 11].getD i 0) : x_JM (d + 1 + 1 + 1) mj_charAt G [.ref (G.2.2.2.2.1 i), .int (nI k)] (some (.int (x_ch i k))) := by
  have h160 := x_len2 hi
  refine x_Jof (by decide) (Nat.le_of_ble_eq_true rfl) ?_
  refine J_aload (k := 0) 0 (by decide +kernel) rfl ?_
  refine J_callV (μ' := mj_isL) (vs := []) hi (by decide +kernel) jl_S_492 jvk_isL rfl rfl rfl (Nat.le_of_ble_eq_true rfl) rfl (j_isL hi) ?_
  refine J_if_eq (off := 12) 16 (by decide +kernel) (by decide) (fun q => absurd q (by decide)) (fun _ => ?_)
  refine J_aload (k := 0) 0 (by decide +kernel) rfl ?_
  refine J_value hi rfl (by decide +kernel) ?_
  refine J_iload_n (k := 1) 1 (by decide +kernel) rfl ?_
  refine J_callS (μ' := mj_cAt1) (vs := [.ref (G.2.2.2.2.2 i), .int (nI k)]) (by decide +kernel) jl_S_495 jok_cAt1 jst_cAt1 rfl rfl (Nat.le_of_ble_eq_true rfl) rfl rfl (j_cAt1 hi hk) ?_
  exact J_iret (ty := .char) rfl (x_chn i hi k (by omega)) (by decide +kernel) rfl
theorem j_can {d : Nat} {G : x_G} {x : Int32} (h0 : ¬ x < 0) (h1 : ¬ 255 < x) : x_JM d mj_can G [.int x] (some (.int 1)) := by
  refine x_Jof (by decide) (Nat.le_of_ble_eq_true rfl) ?_
  refine J_iload_n (k := 0) 0 (by decide +kernel) rfl ?_
  refine J_if_lt (off := 14) 15 (by decide +kernel) (by decide) (fun q => absurd q h0) (fun _ => ?_)
  refine J_iload_n (k := 0) 0 (by decide +kernel) rfl ?_
  refine J_sipush (n := 255) (x := 255) (by decide +kernel) (by decide) ?_
  refine J_icmp_gt (off := 7) 15 (by decide +kernel) (by decide) (fun q => absurd q h1) (fun _ => ?_)
  refine J_iconst (n := 1) (x := 1) (by decide +kernel) (by decide) ?_
  refine J_goto (off := 4) 16 (by decide +kernel) (by decide) ?_
  exact J_iret (ty := .boolean) rfl (by decide) (by decide +kernel) rfl
/-- where a byte stands among the signs -/
def x_ixF (c : Int32) : List Int32 → Nat → Int32
  | [], _ => -1
  | b :: l, k => if b = c then nI k else x_ixF c l (k + 1)
def x_ix (x : Int32) : Int32 := x_ixF x.toInt8.toInt32 x_signs 0
theorem x_sgn11 : x_signs.length = 11 := by decide +kernel
set_option maxRecDepth 20000 in
theorem j_ixcL {d : Nat} {G : x_G} {x b : Int32} : ∀ (l : List Int32) (k : Nat), k + l.length = 11 → x_signs.drop k = l → x_Jj d mj_ixc (some (.int (x_ixF b l k))) G 7 [(0, .ref (G.2.2.2.2.2 1)), (1, .int x), (2, .int 0), (3, .int (nI 11)), (4, .int b), (5, .int (nI k))] [] := by
  intro l
  induction l with
  | nil =>
    intro k hk he
    have hk : k = 11 := hk
    subst hk
    refine J_iload (k := 5) 5 (by decide +kernel) rfl ?_
    refine J_iload_n (k := 3) 3 (by decide +kernel) rfl ?_
    refine J_icmp_ge (off := 21) 31 (by decide +kernel) (by decide) (fun _ => ?_) (fun q => absurd (by decide) q)
    refine J_iconst (n := -1) (x := -1) (by decide +kernel) (by decide) ?_
    exact J_iret (ty := .int) rfl rfl (by decide +kernel) rfl
  | cons a l ih =>
    intro k hk he
    have hk' : k + (l.length + 1) = 11 := hk
    have hg : x_signs.getD k 0 = a := by
      rw [List.getD_eq_getElem?_getD, ← List.head?_drop, he]
      rfl
    refine J_iload (k := 5) 5 (by decide +kernel) rfl ?_
    refine J_iload_n (k := 3) 3 (by decide +kernel) rfl ?_
    refine J_icmp_ge (off := 21) 31 (by decide +kernel) (by decide) (fun q => absurd q (nI_ge (by omega) (by decide))) (fun _ => ?_)
    refine J_aload (k := 0) 0 (by decide +kernel) rfl ?_
    refine J_iload (k := 5) 5 (by decide +kernel) rfl ?_
    refine J_bald (i := 1) (by decide) (vp_in_nI (by show k < 11; omega) (by decide)) (by decide +kernel) ?_
    rw [nI_clamp (by omega)]
    refine J_iload (k := 4) 4 (by decide +kernel) rfl ?_
    show x_Jj d mj_ixc _ G _ _ [.int b, .int (x_signs.getD k 0)]
    rw [hg]
    refine J_icmp_ne (off := 6) 25 (by decide +kernel) (by decide) (fun q => ?_) (fun q => ?_)
    · rw [x_ixF, if_neg q]
      refine J_iinc (i := 5) (n := 1) (y := nI (k + 1)) (L' := [(5, .int (nI (k + 1))), (0, .ref (G.2.2.2.2.2 1)), (1, .int x), (2, .int 0), (3, .int (nI 11)), (4, .int b)]) 5 (by decide +kernel) rfl (by rw [nI_succ]; rfl) (by decide) rfl ?_
      refine J_goto (off := -21) 7 (by decide +kernel) (by decide) ?_
      have := ih (k + 1) (by omega) (by rw [← List.tail_drop, he]; rfl)
      intro l2 p e s m args below meth c C locs ls hS hl
      refine this l2 p e s m args below meth c C locs ls hS ⟨hl.1, hl.2.1, fun w hw => hl.2.2 w ?_⟩
      simp only [List.mem_cons, List.not_mem_nil, or_false] at hw ⊢
      rcases hw with h | h | h | h | h | h <;> simp [h]
    · rw [x_ixF, if_pos q]
      refine J_iload (k := 5) 5 (by decide +kernel) rfl ?_
      exact J_iret (ty := .int) rfl rfl (by decide +kernel) rfl
theorem j_ixc {d : Nat} {G : x_G} {x : Int32} : x_JM d mj_ixc G [.ref (G.2.2.2.2.2 1), .int x, .int 0, .int (nI 11)] (some (.int (x_ix x))) := by
  refine x_Jof (by decide) (Nat.le_of_ble_eq_true rfl) ?_
  refine J_iload_n (k := 1) 1 (by decide +kernel) rfl ?_
  refine J_i2b (by decide +kernel) ?_
  refine J_istore (k := 4) (L' := [(4, .int x.toInt8.toInt32), (0, .ref (G.2.2.2.2.2 1)), (1, .int x), (2, .int 0), (3, .int (nI 11))]) (by decide +kernel) (by decide) rfl ?_
  refine J_iload_n (k := 2) 3 (by decide +kernel) rfl ?_
  refine J_istore (k := 5) (L' := [(5, .int 0), (4, .int x.toInt8.toInt32), (0, .ref (G.2.2.2.2.2 1)), (1, .int x), (2, .int 0), (3, .int (nI 11))]) (by decide +kernel) (by decide) rfl ?_
  intro l2 p e s m args below meth c C locs ls hS hl
  refine j_ixcL (x := x) x_signs 0 (by rw [x_sgn11]) rfl l2 p e s m args below meth c C locs ls hS ⟨hl.1, hl.2.1, fun w hw => hl.2.2 w ?_⟩
  simp only [List.mem_cons, List.not_mem_nil, or_false, nI_0] at hw ⊢
  rcases hw with h | h | h | h | h | h <;> simp [h]
theorem j_ix1 {d : Nat} {G : x_G} {x : Int32} (h0 : ¬ x < 0) (h1 : ¬ 255 < x) : x_JM (d + 1) mj_ix1 G [.ref (G.2.2.2.2.2 1), .int x, .int 0, .int (nI 11)] (some (.int (x_ix x))) := by
  refine x_Jof (by decide) (Nat.le_of_ble_eq_true rfl) ?_
  refine J_iload_n (k := 1) 1 (by decide +kernel) rfl ?_
  refine J_callS (μ' := mj_can) (vs := [.int x]) (by decide +kernel) jl_L_88 jok_can jst_can rfl rfl (Nat.le_of_ble_eq_true rfl) rfl rfl (j_can h0 h1) ?_
  refine J_if_ne (off := 5) 9 (by decide +kernel) (by decide) (fun _ => ?_) (fun q => absurd q (by decide))
  refine J_iload_n (k := 2) 2 (by decide +kernel) rfl ?_
  refine J_iconst (n := 0) (x := 0) (by decide +kernel) (by decide) ?_
  refine J_max (i := 92) (by decide +kernel) jl_L_92 (Nat.le_of_ble_eq_true rfl) ?_
  refine J_istore_n (k := 2) (L' := [(2, .int 0), (0, .ref (G.2.2.2.2.2 1)), (1, .int x), (3, .int (nI 11))]) (by decide +kernel) (by decide) rfl ?_
  refine J_iload_n (k := 3) 3 (by decide +kernel) rfl ?_
  refine J_aload (k := 0) 1 (by decide +kernel) rfl ?_
  refine J_alen (i := 1) (by decide) (by decide +kernel) ?_
  refine J_min (i := 38) (by decide +kernel) jl_L_38 (Nat.le_of_ble_eq_true rfl) ?_
  refine J_istore_n (k := 3) (L' := [(3, .int (nI 11)), (2, .int 0), (0, .ref (G.2.2.2.2.2 1)), (1, .int x)]) (by decide +kernel) (by decide) rfl ?_
  refine J_iload_n (k := 2) 1 (by decide +kernel) rfl ?_
  refine J_iload_n (k := 3) 0 (by decide +kernel) rfl ?_
  refine J_icmp_lt (off := 5) 29 (by decide +kernel) (by decide) (fun _ => ?_) (fun q => absurd (by decide) q)
  refine J_aload (k := 0) 2 (by decide +kernel) rfl ?_
  refine J_iload_n (k := 1) 3 (by decide +kernel) rfl ?_
  refine J_iload_n (k := 2) 1 (by decide +kernel) rfl ?_
  refine J_iload_n (k := 3) 0 (by decide +kernel) rfl ?_
  refine J_callS (μ' := mj_ixc) (vs := [.ref (G.2.2.2.2.2 1), .int x, .int 0, .int (nI 11)]) (by decide +kernel) jl_L_95 jok_ixc jst_ixc rfl rfl (Nat.le_of_ble_eq_true rfl) rfl rfl j_ixc ?_
  exact J_iret (ty := .int) rfl rfl (by decide +kernel) rfl
theorem j_ix2 {d : Nat} {G : x_G} {x : Int32} (h0 : ¬ x < 0) (h1 : ¬ 255 < x) : x_JM (d + 1 + 1) mj_ix2 G [.ref (G.2.2.2.2.1 1), .int x, .int 0] (some (.int (x_ix x))) := by
  refine x_Jof (by decide) (Nat.le_of_ble_eq_true rfl) ?_
  refine J_aload (k := 0) 0 (by decide +kernel) rfl ?_
  refine J_callV (b := 1) (μ' := mj_isL) (vs := []) (by decide) (by decide +kernel) jl_S_492 jvk_isL rfl rfl rfl (Nat.le_of_ble_eq_true rfl) rfl (j_isL (by decide)) ?_
  refine J_if_eq (off := 19) 23 (by decide +kernel) (by decide) (fun q => absurd q (by decide)) (fun _ => ?_)
  refine J_aload (k := 0) 0 (by decide +kernel) rfl ?_
  refine J_value (i := 1) (by decide) rfl (by decide +kernel) ?_
  refine J_iload_n (k := 1) 1 (by decide +kernel) rfl ?_
  refine J_iload_n (k := 2) 2 (by decide +kernel) rfl ?_
  refine J_aload (k := 0) 0 (by decide +kernel) rfl ?_
  refine J_callV (b := 1) (μ' := mj_len) (vs := []) (by decide) (by decide +kernel) jl_S_505 jvk_len rfl rfl rfl (Nat.le_of_ble_eq_true rfl) rfl (j_len (by decide)) ?_
  refine J_callS (μ' := mj_ix1) (vs := [.ref (G.2.2.2.2.2 1), .int x, .int 0, .int (nI 11)]) (by decide +kernel) jl_S_637 jok_ix1 jst_ix1 rfl rfl (Nat.le_of_ble_eq_true rfl) rfl rfl (j_ix1 h0 h1) ?_
  refine J_goto (off := 16) 36 (by decide +kernel) (by decide) ?_
  exact J_iret (ty := .int) rfl rfl (by decide +kernel) rfl
theorem j_ix {d : Nat} {G : x_G} {x : Int32} (h0 : ¬ x < 0) (h1 : ¬ 255 < x) : x_JM (d + 1 + 1 + 1) mj_ix G [.ref (G.2.2.2.2.1 1), .int x] (some (.int (x_ix x))) := by
  refine x_Jof (by decide) (Nat.le_of_ble_eq_true rfl) ?_
  refine J_aload (k := 0) 0 (by decide +kernel) rfl ?_
  refine J_iload_n (k := 1) 1 (by decide +kernel) rfl ?_
  refine J_iconst (n := 0) (x := 0) (by decide +kernel) (by decide) ?_
  refine J_callV (b := 1) (μ' := mj_ix2) (vs := [.int x, .int 0]) (by decide) (by decide +kernel) jl_S_633 jvk_ix2 rfl rfl rfl (Nat.le_of_ble_eq_true rfl) rfl (j_ix2 h0 h1) ?_
  exact J_iret (ty := .int) rfl rfl (by decide +kernel) rfl
