section XMEM
variable {d : Nat} {μ : x_M} {N0 : Nat} {Q : x_S → Option Value → Prop} {N pc : Nat} {L L' : List (Nat × Value)} {st : List Value} {σ : x_S}
/-- a field is read -/
theorem o_get {o t n k i : Nat} {C : String} {T : u_T} {v : Value} (hd : decode μ.2.1 pc = .ok (.getfield i, 3)) (hs : x_sh o = (t, n)) (ho : o < N) (hc : vwCl[t]? = some (C, T, n)) (hk : k < n) (hw : Cond.fieldLink μ.1.cls i (T k).1 (T k).2.1 (T k).2.2.1 ∈ x_tb) (hv : x_av (x_ty t k) σ o k = v) (h : x_Wg d μ N0 Q N (pc + 3) L (v :: st) σ) : x_Wg d μ N0 Q N pc L (.ref o :: st) σ := by
  intro l G p e s m args below meth c X h0 h1 h2 H locs ls hW hS hl
  refine va_get (Ts := x_w μ) (v := x_ad G.2.2.1 v) X.1 X.2.1 X.2.2.2.2.2.2.2.1 (fun w h => List.mem_cons_of_mem _ (x_inX hc w h)) X.2.2.2.2.1 X.2.2.2.2.2.2.2.2.1.1 hW o (by rw [x_ws_at ho, x_el_o hs (x_t13 hc)]) hc k hk (x_word X hw) (fun _ h => h) ?_ hd (h l G p e s m args below meth c X h0 h1 h2 H locs ls hW hS hl)
  rw [List.getElem?_map, List.getElem?_range hk]
  show some (x_ad _ (x_av (x_ty t k) σ o k)) = _
  rw [hv]
theorem x_el_wi {G : x_G} {c k : Nat} {v : Int32} {a : Nat} (h : a ≠ c) : x_el G (x_wi σ c k v) a = x_el G σ a := by
  have h1 : (x_wi σ c k v).1 a = σ.1 a := by funext b; simp [x_wi, h]
  have h2 : ∀ ty b, x_av ty (x_wi σ c k v) a b = x_av ty σ a b := by
    intro ty b
    unfold x_av
    split
    · rw [h1]
    · rfl
    · rfl
  unfold x_el
  simp only [h1, h2]
  rfl
theorem x_el_wl {G : x_G} {c k : Nat} {v : Int64} {a : Nat} (h : a ≠ c) : x_el G (x_wl σ c k v) a = x_el G σ a := by
  have h1 : (x_wl σ c k v).2.1 a = σ.2.1 a := by funext b; simp [x_wl, h]
  have h2 : ∀ ty b, x_av ty (x_wl σ c k v) a b = x_av ty σ a b := by
    intro ty b
    unfold x_av
    split
    · rfl
    · rw [h1]
    · rfl
  unfold x_el
  simp only [h1, h2]
  rfl
theorem x_el_wr {G : x_G} {c k : Nat} {v : Option Nat} {a : Nat} (h : a ≠ c) : x_el G (x_wr σ c k v) a = x_el G σ a := by
  have h1 : (x_wr σ c k v).2.2 a = σ.2.2 a := by funext b; simp [x_wr, h]
  have h2 : ∀ ty b, x_av ty (x_wr σ c k v) a b = x_av ty σ a b := by
    intro ty b
    unfold x_av
    split
    · rfl
    · rfl
    · rw [h1]
  unfold x_el
  simp only [h1, h2]
  rfl
theorem x_fs_set {n k : Nat} {f g : Nat → Value} {v : Value} (hv : g k = v) (h : ∀ j, j ≠ k → g j = f j) : ((List.range n).map f).set k v = (List.range n).map g := by
  apply List.ext_getElem?
  intro j
  rw [List.getElem?_set, List.getElem?_map, List.getElem?_map]
  by_cases hj : k = j
  · subst hj
    rw [if_pos rfl]
    by_cases hn : k < n
    · rw [if_pos (by rw [List.length_map, List.length_range]; exact hn), List.getElem?_range hn, Option.map_some, hv]
    · rw [if_neg (by rw [List.length_map, List.length_range]; exact hn), List.getElem?_eq_none (by rw [List.length_range]; omega)]
      rfl
  · rw [if_neg hj]
    by_cases hn : j < n
    · rw [List.getElem?_range hn, Option.map_some, Option.map_some, h j (fun e => hj e.symm)]
    · rw [List.getElem?_eq_none (by rw [List.length_range]; omega)]
      rfl
/-- a field is written: an int, a reference -/
theorem o_putI {o t n k i : Nat} {C : String} {T : u_T} {v : Int32} (hd : decode μ.2.1 pc = .ok (.putfield i, 3)) (hs : x_sh o = (t, n)) (ho : o < N) (hc : vwCl[t]? = some (C, T, n)) (hk : k < n) (hf : (T k).2.2.2 = false) (ht : x_ty t k = .int) (hw : Cond.fieldLink μ.1.cls i (T k).1 (T k).2.1 (T k).2.2.1 ∈ x_tb) (h : x_Wg d μ N0 Q N (pc + 3) L st (x_wi σ o k v)) : x_Wg d μ N0 Q N pc L (.int v :: .ref o :: st) σ := by
  intro l G p e s m args below meth c X h0 h1 h2 H locs ls hW hS hl
  refine va_put (Ts := x_w μ) (v := .int v) (H0 := s.heap) X.1 X.2.1 X.2.2.2.2.2.2.2.1 (fun w h => List.mem_cons_of_mem _ (x_inX hc w h)) (x_ty t) (x_tyX hc) (x_nmX hc) X.2.2.2.2.1 X.2.2.2.2.2.2.2.2.1.1 hW x_D hS o (by rw [x_ws_at ho, x_el_o hs (x_t13 hc)]) hc k hk (x_word X hw) (fun _ h => h) hf (ty := .int) (by rw [x_tyX hc k hk, ht]) rfl rfl (by rw [List.length_map, List.length_range]; exact hk) hd (fun H1 locs1 hP1 hD1 hS1 => ?_)
  refine h l G p e s m args below meth c X h0 h1 h2 H1 locs1 ls ?_ hS1 hl
  · rw [x_ws_set (σ' := x_wi σ o k v) ho] at hP1
    · exact hP1
    · rw [x_el_o hs (x_t13 hc)]
      congr 2
      symm
      apply x_fs_set
      · rw [ht]; simp [x_av, x_wi, x_ad]
      · intro j hj
        unfold x_av
        split <;> simp [x_wi, hj]
    · intro a ha; exact x_el_wi ha
end XMEM
