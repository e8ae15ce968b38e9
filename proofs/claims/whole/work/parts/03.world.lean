/-! The little machine: memory by cells and slots; the world that it stands for. -/
abbrev x_S : Type := (Nat → Nat → Int32) × (Nat → Nat → Int64) × (Nat → Nat → Option Nat)
def x_wi (σ : x_S) (c k : Nat) (v : Int32) : x_S := (fun a b => if a = c ∧ b = k then v else σ.1 a b, σ.2)
def x_wl (σ : x_S) (c k : Nat) (v : Int64) : x_S := (σ.1, fun a b => if a = c ∧ b = k then v else σ.2.1 a b, σ.2.2)
def x_wr (σ : x_S) (c k : Nat) (v : Option Nat) : x_S := (σ.1, σ.2.1, fun a b => if a = c ∧ b = k then v else σ.2.2 a b)
/-- a fresh cell -/
def x_nw (σ : x_S) (c : Nat) : x_S := (fun a b => if a = c then 0 else σ.1 a b, fun a b => if a = c then 0 else σ.2.1 a b, fun a b => if a = c then none else σ.2.2 a b)
def x_shAll : List (Nat × Nat) := [(11, 18), (3, 9), (20, 8), (20, 8), (20, 4), (20, 64), (20, 64), (5, 3), (20, 8), (20, 8), (5, 3), (20, 8), (20, 8), (1, 11), (20, 8), (20, 8), (20, 90), (7, 3), (24, 30), (1, 11), (20, 8), (20, 8), (20, 90), (1, 11), (20, 8), (20, 8), (20, 90), (1, 11), (20, 8), (20, 8), (20, 90), (1, 11), (20, 8), (20, 8), (20, 90), (1, 11), (20, 8), (20, 8), (20, 90), (1, 11), (20, 8), (20, 8), (20, 90), (1, 11), (20, 8), (20, 8), (20, 90), (1, 11), (20, 8), (20, 8), (20, 90), (1, 11), (20, 8), (20, 8), (20, 90), (1, 11), (20, 8), (20, 8), (20, 90), (1, 11), (20, 8), (20, 8), (20, 90), (1, 11), (20, 8), (20, 8), (20, 90), (1, 11), (20, 8), (20, 8), (20, 90), (1, 11), (20, 8), (20, 8), (20, 90), (1, 11), (20, 8), (20, 8), (20, 90), (1, 11), (20, 8), (20, 8), (20, 90), (1, 11), (20, 8), (20, 8), (20, 90), (1, 11), (20, 8), (20, 8), (20, 90), (1, 11), (20, 8), (20, 8), (20, 90), (1, 11), (20, 8), (20, 8), (20, 90), (1, 11), (20, 8), (20, 8), (20, 90), (1, 11), (20, 8), (20, 8), (20, 90), (1, 11), (20, 8), (20, 8), (20, 90), (1, 11), (20, 8), (20, 8), (20, 90), (1, 11), (20, 8), (20, 8), (20, 90), (1, 11), (20, 8), (20, 8), (20, 90), (1, 11), (20, 8), (20, 8), (20, 90), (1, 11), (20, 8), (20, 8), (20, 90), (1, 11), (20, 8), (20, 8), (20, 90), (1, 11), (20, 8), (20, 8), (20, 90), (23, 4), (9, 10), (20, 24), (20, 24), (20, 24), (20, 24), (20, 4), (20, 4), (20, 300), (20, 300), (9, 10), (20, 24), (20, 24), (20, 24), (20, 24), (20, 4), (20, 4), (20, 300), (20, 300), (9, 10), (20, 24), (20, 24), (20, 24), (20, 24), (20, 4), (20, 4), (20, 300), (20, 300), (9, 10), (20, 24), (20, 24), (20, 24), (20, 24), (20, 4), (20, 4), (20, 300), (20, 300), (3, 9), (20, 8), (20, 8), (20, 4), (20, 64), (20, 64), (5, 3), (20, 8), (20, 8), (5, 3), (20, 8), (20, 8), (1, 11), (20, 8), (20, 8), (20, 90), (7, 3), (24, 30), (1, 11), (20, 8), (20, 8), (20, 90), (1, 11), (20, 8), (20, 8), (20, 90), (1, 11), (20, 8), (20, 8), (20, 90), (1, 11), (20, 8), (20, 8), (20, 90), (1, 11), (20, 8), (20, 8), (20, 90), (1, 11), (20, 8), (20, 8), (20, 90), (1, 11), (20, 8), (20, 8), (20, 90), (1, 11), (20, 8), (20, 8), (20, 90), (1, 11), (20, 8), (20, 8), (20, 90), (1, 11), (20, 8), (20, 8), (20, 90), (1, 11), (20, 8), (20, 8), (20, 90), (1, 11), (20, 8), (20, 8), (20, 90), (1, 11), (20, 8), (20, 8), (20, 90), (1, 11), (20, 8), (20, 8), (20, 90), (1, 11), (20, 8), (20, 8), (20, 90), (1, 11), (20, 8), (20, 8), (20, 90), (1, 11), (20, 8), (20, 8), (20, 90), (1, 11), (20, 8), (20, 8), (20, 90), (1, 11), (20, 8), (20, 8), (20, 90), (1, 11), (20, 8), (20, 8), (20, 90), (1, 11), (20, 8), (20, 8), (20, 90), (1, 11), (20, 8), (20, 8), (20, 90), (1, 11), (20, 8), (20, 8), (20, 90), (1, 11), (20, 8), (20, 8), (20, 90), (1, 11), (20, 8), (20, 8), (20, 90), (1, 11), (20, 8), (20, 8), (20, 90), (1, 11), (20, 8), (20, 8), (20, 90), (1, 11), (20, 8), (20, 8), (20, 90), (1, 11), (20, 8), (20, 8), (20, 90), (1, 11), (20, 8), (20, 8), (20, 90), (8, 6), (20, 300), (20, 301), (20, 301), (20, 301), (6, 6), (9, 10), (20, 24), (20, 24), (20, 24), (20, 24), (20, 4), (20, 4), (20, 300), (20, 300), (4, 5), (20, 32), (20, 64), (2, 2), (10, 10), (20, 72), (20, 72), (20, 64), (20, 8), (20, 8), (0, 3), (20, 8), (1, 11), (20, 8), (20, 8), (20, 90), (12, 47), (20, 3670), (20, 3670), (21, 300), (20, 4), (20, 96), (20, 96), (20, 96), (20, 96), (20, 96), (20, 1600), (20, 1600), (20, 40), (20, 41), (20, 80), (20, 80), (20, 41), (20, 24), (20, 24), (20, 24), (20, 24), (20, 24), (20, 400), (20, 400), (20, 64), (20, 114), (20, 12), (22, 200), (20, 72), (20, 8), (20, 8)]
/-- the shape of each cell, by its number: (class or kind of array, how many slots) -/
def x_sh (c : Nat) : Nat × Nat := x_shAll.getD c (99, 0)
theorem x_shN : x_shAll.length = 376 := by decide +kernel
theorem x_sh_lt {c t n : Nat} (h : x_sh c = (t, n)) (ht : t ≠ 99) : c < 376 := by
  rcases Nat.lt_or_ge c 376 with q | q
  · exact q
  · exfalso
    have : x_sh c = (99, 0) := by
      unfold x_sh
      rw [List.getD_eq_getElem?_getD, List.getElem?_eq_none (by rw [x_shN]; exact q)]
      rfl
    rw [this] at h
    exact ht (Prod.mk.inj h).1.symm
/-- how many slots the first N cells have -/
def x_sl : Nat → Nat
  | 0 => 0
  | n + 1 => x_sl n + (x_sh n).2
theorem x_sl_le {a b : Nat} (h : a ≤ b) : x_sl a ≤ x_sl b := by
  induction b with
  | zero => have : a = 0 := by omega
            subst this; exact Nat.le_refl _
  | succ n ih =>
    rcases Nat.lt_or_ge a (n + 1) with q | q
    · exact Nat.le_trans (ih (by omega)) (Nat.le_add_right _ _)
    · have : a = n + 1 := by omega
      subst this; exact Nat.le_refl _
def x_ty (t : Nat) : Nat → FieldType := match t with
  | 0 => tyX0 | 1 => tyX1 | 2 => tyX2 | 3 => tyX3 | 4 => tyX4 | 5 => tyX5 | 6 => tyX6 | 7 => tyX7 | 8 => tyX8 | 9 => tyX9 | 10 => tyX10 | 11 => tyX11 | _ => tyX12
/-- what the world's places are: numbers of classes and slots, array classes, the first address, the table's address, the texts' addresses -/
abbrev x_G : Type := va_G × (Nat → ClassId) × Nat × Nat × (Nat → Nat) × (Nat → Nat)
def x_ad (z : Nat) (v : Value) : Value := match v with
  | .ref c => .ref (z + c)
  | v => v
def x_rf (r : Option Nat) : Value := match r with
  | none => .null
  | some c => .ref c
theorem x_ad_cat (z : Nat) (v : Value) : (x_ad z v).category = v.category := by cases v <;> rfl
def x_av (ty : FieldType) (σ : x_S) (c k : Nat) : Value := match ty with
  | .int => .int (σ.1 c k)
  | .long => .long (σ.2.1 c k)
  | _ => x_rf (σ.2.2 c k)
def x_el (G : x_G) (σ : x_S) (c : Nat) : va_E := match x_sh c with
  | (20, n) => .inl (G.2.1 0, n, .inl (σ.1 c))
  | (21, n) => .inl (G.2.1 1, n, .inl (σ.1 c))
  | (22, n) => .inl (G.2.1 2, n, .inr (.inl (σ.2.1 c)))
  | (23, n) => .inl (G.2.1 3, n, .inr (.inr (.inr (.inr (fun j => (σ.2.2 c j).map (G.2.2.1 + ·))))))
  | (24, n) => .inl (G.2.1 4, n, .inr (.inr (.inr (.inr (fun j => (σ.2.2 c j).map (G.2.2.1 + ·))))))
  | (t, n) => .inr (t, (List.range n).map (fun k => x_ad G.2.2.1 (x_av (x_ty t k) σ c k)))
theorem x_el_i {G : x_G} {σ : x_S} {c n : Nat} (h : x_sh c = (20, n)) : x_el G σ c = .inl (G.2.1 0, n, .inl (σ.1 c)) := by unfold x_el; rw [h]; rfl
theorem x_el_b {G : x_G} {σ : x_S} {c n : Nat} (h : x_sh c = (21, n)) : x_el G σ c = .inl (G.2.1 1, n, .inl (σ.1 c)) := by unfold x_el; rw [h]; rfl
theorem x_el_l {G : x_G} {σ : x_S} {c n : Nat} (h : x_sh c = (22, n)) : x_el G σ c = .inl (G.2.1 2, n, .inr (.inl (σ.2.1 c))) := by unfold x_el; rw [h]; rfl
theorem x_el_t {G : x_G} {σ : x_S} {c n : Nat} (h : x_sh c = (23, n)) : x_el G σ c = .inl (G.2.1 3, n, .inr (.inr (.inr (.inr (fun j => (σ.2.2 c j).map (G.2.2.1 + ·)))))) := by unfold x_el; rw [h]; rfl
theorem x_el_d {G : x_G} {σ : x_S} {c n : Nat} (h : x_sh c = (24, n)) : x_el G σ c = .inl (G.2.1 4, n, .inr (.inr (.inr (.inr (fun j => (σ.2.2 c j).map (G.2.2.1 + ·)))))) := by unfold x_el; rw [h]; rfl
theorem x_el_o {G : x_G} {σ : x_S} {c t n : Nat} (h : x_sh c = (t, n)) (ht : t < 13) : x_el G σ c = .inr (t, (List.range n).map (fun k => x_ad G.2.2.1 (x_av (x_ty t k) σ c k))) := by
  unfold x_el
  rw [h]
  split
  · rename_i q; have := (Prod.mk.inj q).1; omega
  · rename_i q; have := (Prod.mk.inj q).1; omega
  · rename_i q; have := (Prod.mk.inj q).1; omega
  · rename_i q; have := (Prod.mk.inj q).1; omega
  · rename_i q; have := (Prod.mk.inj q).1; omega
  · rename_i q; have q1 := (Prod.mk.inj q).1; have q2 := (Prod.mk.inj q).2; subst q1; subst q2; rfl
def x_ws (G : x_G) (N : Nat) (σ : x_S) : va_W := (List.range N).map fun c => (G.2.2.1 + c, x_el G σ c)
theorem x_ws_at {G : x_G} {N : Nat} {σ : x_S} {c : Nat} (h : c < N) : (x_ws G N σ)[c]? = some (G.2.2.1 + c, x_el G σ c) := by
  unfold x_ws
  rw [List.getElem?_map, List.getElem?_range h]
  rfl
theorem x_ws_inv {G : x_G} {N : Nat} {σ : x_S} {k : Nat} {q : Nat × va_E} (h : (x_ws G N σ)[k]? = some q) : k < N ∧ q = (G.2.2.1 + k, x_el G σ k) := by
  have hk : k < N := by
    have := (List.getElem?_eq_some_iff.mp h).1
    unfold x_ws at this
    rw [List.length_map, List.length_range] at this
    exact this
  rw [x_ws_at hk] at h
  exact ⟨hk, (Option.some.inj h).symm⟩
theorem x_ws_set {G : x_G} {N : Nat} {σ σ' : x_S} {c : Nat} {e : va_E} (hc : c < N) (h1 : x_el G σ' c = e) (h2 : ∀ a, a ≠ c → x_el G σ' a = x_el G σ a) : (x_ws G N σ).set c (G.2.2.1 + c, e) = x_ws G N σ' := by
  apply List.ext_getElem?
  intro k
  rw [List.getElem?_set]
  by_cases hk : c = k
  · subst hk
    have hl : c < (x_ws G N σ).length := by unfold x_ws; rw [List.length_map, List.length_range]; exact hc
    rw [if_pos rfl, if_pos hl, x_ws_at hc, h1]
  · rw [if_neg hk]
    rcases Nat.lt_or_ge k N with q | q
    · rw [x_ws_at q, x_ws_at q, h2 k (fun h => hk h.symm)]
    · unfold x_ws
      rw [List.getElem?_eq_none (by rw [List.length_map, List.length_range]; exact q), List.getElem?_eq_none (by rw [List.length_map, List.length_range]; exact q)]
theorem x_ws_new {G : x_G} {N : Nat} {σ σ' : x_S} {e : va_E} (h1 : x_el G σ' N = e) (h2 : ∀ a, a < N → x_el G σ' a = x_el G σ a) : x_ws G N σ ++ [(G.2.2.1 + N, e)] = x_ws G (N + 1) σ' := by
  unfold x_ws
  rw [List.range_succ, List.map_append, List.map_singleton, h1]
  congr 1
  apply List.map_congr_left
  intro a ha
  rw [h2 a (List.mem_range.mp ha)]
def x_A (G : x_G) : Nat → Prop := fun q => G.2.2.1 ≤ q
theorem x_D {G : x_G} {N : Nat} {σ : x_S} : va_D (x_A G) (x_ws G N σ) := by
  refine ⟨fun i j p q hi hj h => ?_, fun k q hk => ?_⟩
  · obtain ⟨-, rfl⟩ := x_ws_inv hi
    obtain ⟨-, rfl⟩ := x_ws_inv hj
    have h : G.2.2.1 + i = G.2.2.1 + j := h
    omega
  · obtain ⟨-, rfl⟩ := x_ws_inv hk
    exact Nat.le_add_right _ _
def x_W (G : x_G) (N : Nat) (σ : x_S) (H : Heap) : Prop := va_P G.1 vwCl (x_ws G N σ) H
def x_tys (G : x_G) : List (ClassId × FieldType) := [(G.2.1 0, .int), (G.2.1 1, .byte), (G.2.1 2, .long), (G.2.1 3, .object "NoonOnABarrow$Text"), (G.2.1 4, .object "NoonOnABarrow$Day")]
def x_wordsS : String := "hard wears earns warm house lane pusher push tip mend minute to of by far if then else end not or and here hill hour pale purse there strength wheels left noon "
def x_signsS : String := "<>=#+-*/();"
def x_words : List Int32 := x_wordsS.toList.map fun c => Int32.ofNat c.toNat
def x_signs : List Int32 := x_signsS.toList.map fun c => Int32.ofNat c.toNat
def x_named : List Int32 := [0, 0, 0, 0, 0, 1, 0, 0, 0, 0, 15, 0, 0, 0, 0, 0, 0, 0, 0, 0, 0, 0, 15, 15, 4, 4, 4, 1, 1, 2, 2, 8]
/-- the links between the class and the ones nested in it -/
def x_nm : List (String × Nat × MethodName × String) := [("NoonOnABarrow", 9, yX3_init, "NoonOnABarrow"), ("NoonOnABarrow$Land", 29, yX5_init, "NoonOnABarrow"), ("NoonOnABarrow", 18, yX1_init, "NoonOnABarrow"), ("NoonOnABarrow$Steps", 17, yX1_init, "NoonOnABarrow"), ("NoonOnABarrow", 36, yX9_init, "NoonOnABarrow"), ("NoonOnABarrow", 61, yX8_init, "NoonOnABarrow"), ("NoonOnABarrow$Reader", 24, yX9_init, "NoonOnABarrow"), ("NoonOnABarrow$Laws", 72, yX11_held, "NoonOnABarrow"), ("NoonOnABarrow$Doings", 95, yX11_held, "NoonOnABarrow")]
/-- what stands outside the world and stays: the table, the texts, the links -/
def x_Z (G : x_G) (U : State) : Prop :=
  va_Z "NoonOnABarrow" "NAMED_IN" "[I" (.ref G.2.2.2.1) (x_A G) U U.heap ∧ va_T .int G.2.2.2.1 32 (fun j => .int (x_named.getD j 0)) (x_A G) U U.heap ∧
  va_Z "java/lang/String" "COMPACT_STRINGS" "Z" (.int 1) (x_A G) U U.heap ∧ vk_S 2 [160, 11] [x_words, x_signs] G.2.2.2.2.1 G.2.2.2.2.2 (x_A G) U U.heap ∧
  vk_R "NoonOnABarrow$Tape" 59 x_wordsS (G.2.2.2.2.1 0) U ∧ vk_R "NoonOnABarrow$Tape" 75 x_signsS (G.2.2.2.2.1 1) U ∧
  (∀ q ∈ x_nm, va_Nw (.methodLinkNest q.1 q.2.1 q.2.2.1 q.2.2.2) U) ∧ va_Nw (.fieldLinkNest "NoonOnABarrow$Reader" 115 "NoonOnABarrow" "NAMED_IN" "[I" "NoonOnABarrow") U ∧ va_AO "NoonOnABarrow$Text" U ∧ va_AO "NoonOnABarrow$Day" U ∧ va_Zq "jdk/internal/util/Preconditions" "SIOOBE_FORMATTER" "Ljava/util/function/BiFunction;" (x_A G) U U.heap
theorem x_Z.warm {G : x_G} {u U : State} (hW : u.WarmedH U.vm) (hz : u.heap.size ≤ U.heap.size) (hq : ∀ a : Nat, a < u.heap.size → ¬ x_A G a → U.heap[a]? = u.heap[a]?) (h : x_Z G u) : x_Z G U := by
  obtain ⟨h1, h2, h3, h4, h5, h6, h7, h8, h9, hx, hy⟩ := h
  exact ⟨(h1.moved hW.alike).kept hq, (h2.moved hW.alike).kept hq, (h3.moved hW.alike).kept hq, (h4.moved hW.alike).kept hq, h5.warm hW, h6.warm hW, fun q hq => (h7 q hq).warmM hW, h8.warmF hW, h9.moved hW.alike, hx.moved hW.alike, (hy.moved hW.alike).kept hq⟩
theorem x_Z.same {G : x_G} {u U : State} (hv : U.vm = u.vm) (hh : U.heap = u.heap) (h : x_Z G u) : x_Z G U := by
  have ha : u.vm.Alike U.vm := by rw [hv]; exact Vm.Alike.refl u.vm
  obtain ⟨h1, h2, h3, h4, h5, h6, h7, h8, h9, hx, hy⟩ := h
  refine ⟨?_, ?_, ?_, ?_, h5.same hv, h6.same hv, fun q hq => (h7 q hq).same rfl hv.symm, h8.same rfl hv.symm, h9.moved ha, hx.moved ha, ?_⟩
  · rw [hh]; exact h1.moved ha
  · rw [hh]; exact h2.moved ha
  · rw [hh]; exact h3.moved ha
  · rw [hh]; exact h4.moved ha
  · rw [hh]; exact hy.moved ha
def x_K (G : x_G) (U : State) : Prop := va_K G.1 vwCl (x_tys G) U ∧ x_Z G U
/-- the good words of the tables -/
def x_tb : List Cond := lw_tbl.filter goodWord
theorem x_tb_in {w : Cond} (h : w ∈ lw_tbl) (hg : goodWord w = true) : w ∈ x_tb := List.mem_filter.mpr ⟨h, hg⟩
/-- a method: its name, bytes, how many locals, what it returns, how many cells and slots it makes -/
abbrev x_M : Type := MethodName × ByteArray × Nat × Option FieldType × Nat × Nat
def x_w (μ : x_M) : List Cond := Cond.code μ.1 μ.2.1 μ.2.2.1 μ.2.2.2.1 :: x_tb
def x_rm (d : Nat) (μ : x_M) : Room := { frames := d, cells := μ.2.2.2.2.1, slots := μ.2.2.2.2.2, locals := 40 * d }
def x_Qc (G : x_G) (N0 : Nat) (μ : x_M) (Q : x_S → Option Value → Prop) : Array Value → State → Outcome → State → Prop := fun _ st oc t =>
  (∃ (v : Option Value) (σ' : x_S), oc = .returned (v.map (x_ad G.2.2.1)) ∧ Q σ' v ∧ x_W G (N0 + μ.2.2.2.2.1) σ' t.heap) ∧ va_F (x_A G) st t
/-- THE CONTRACT: from N cells with memory σ and these arguments the method ends, with Q -/
def x_Mt (d : Nat) (μ : x_M) (N : Nat) (vs : List Value) (σ : x_S) (Q : x_S → Option Value → Prop) : Prop := ∀ (l : Launch) (G : x_G),
  Met l μ.1 (x_w μ) (x_rm d μ) (va_Pc (vs.map (x_ad G.2.2.1)) (fun U => U.heap.size = G.2.2.1 + N ∧ x_W G N σ U.heap ∧ x_K G U)) (x_Qc G N μ Q) μ.2.2.2.2.1 μ.2.2.2.2.2 (x_A G)
def x_Cx (l : Launch) (G : x_G) (p : Program) (e : Env) (s : State) (m : MethodId) (args : Array Value) (meth : Method) (c : Code) (μ : x_M) (N0 : Nat) : Prop :=
  p.tables.exec = Jvm.exec ∧ c.code = μ.2.1 ∧ meth.sig.returnType = μ.2.2.2.1 ∧ c.maxLocals = μ.2.2.1 ∧ s.vm.findClass μ.1.cls = some m.cls ∧ meth.locks = false ∧ meth.name = μ.1.name ∧ (∀ w ∈ x_w μ, w.before args s = true) ∧ x_K G s ∧ s.heap.size = G.2.2.1 + N0
/-- THE JUDGEMENT: at pc, with locals L, stack st, N cells of memory σ, the method comes to its end with Q -/
def x_Wg (d : Nat) (μ : x_M) (N0 : Nat) (Q : x_S → Option Value → Prop) (N pc : Nat) (L : List (Nat × Value)) (st : List Value) (σ : x_S) : Prop :=
  ∀ (l : Launch) (G : x_G) (p : Program) (e : Env) (s : State) (m : MethodId) (args : Array Value) (below : List Frame) (meth : Method) (c : Code), x_Cx l G p e s m args meth c μ N0 →
  N0 ≤ N → N ≤ N0 + μ.2.2.2.2.1 → x_sl N ≤ x_sl N0 + μ.2.2.2.2.2 → ∀ (H : Heap) (locs : List Loc) (ls : Array Slot), x_W G N σ H → va_S (x_A G) s.heap H locs → lv_has ls μ.2.2.1 (L.map fun q => (q.1, x_ad G.2.2.1 q.2)) →
  W p l e (x_rm d μ) s m args below meth c H locs (N - N0) (x_sl N - x_sl N0) (MQ below (x_Qc G N0 μ Q) args s μ.2.2.2.2.1 μ.2.2.2.2.2 (x_A G)) (F0 m pc ls (st.map (x_ad G.2.2.1)))
theorem x_size {l : Launch} {G : x_G} {p : Program} {e : Env} {R : Room} {s T : State} {m : MethodId} {args : Array Value} {below : List Frame} {meth : Method} {c : Code} {μ : x_M} {N0 N k : Nat} {σ : x_S} {H : Heap} {locs : List Loc} (C : x_Cx l G p e s m args meth c μ N0) (X : Stand p l e R s m args below meth c T locs (N - N0) k) (hT : T.heap = H) (hN : N0 ≤ N) (hW : x_W G N σ H) (hS : va_S (x_A G) s.heap H locs) : H.size = G.2.2.1 + N := by
  have h1 : T.heap.size ≤ s.heap.size + (N - N0) := X.same.2.2.1
  have h2 : s.heap.size = G.2.2.1 + N0 := C.2.2.2.2.2.2.2.2.2
  rw [hT, h2] at h1
  have h3 := hS.1
  rw [h2] at h3
  cases N with
  | zero => omega
  | succ n =>
    have h4 := (hW n _ (x_ws_at (Nat.lt_succ_self n))).lt
    have h4 : G.2.2.1 + n < H.size := h4
    omega
