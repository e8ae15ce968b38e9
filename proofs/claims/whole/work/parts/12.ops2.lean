section XO2
variable {d : Nat} {μ : x_M} {N0 : Nat} {Q : x_S → Option Value → Prop} {N pc : Nat} {L L' : List (Nat × Value)} {st : List Value} {σ : x_S}
theorem o_aloadN {k : Nat} (j : Nat) (hd : decode μ.2.1 pc = .ok (.aload k, 2)) (hL : L[j]? = some (k, .null)) (h : x_Wg d μ N0 Q N (pc + 2) L (.null :: st) σ) : x_Wg d μ N0 Q N pc L st σ := by
  intro l G p e s m args below meth c C h0 h1 h2 H locs ls hW hS hl
  exact lv_aloadN C.1 C.2.1 hd (x_lat hl hL) (h l G p e s m args below meth c C h0 h1 h2 H locs ls hW hS hl)
theorem o_astoreN {k : Nat} (hd : decode μ.2.1 pc = .ok (.astore k, 2)) (hn : k < μ.2.2.1) (hL : x_st1 k .null L = L') (h : x_Wg d μ N0 Q N (pc + 2) L' st σ) : x_Wg d μ N0 Q N pc L (.null :: st) σ := by
  intro l G p e s m args below meth c C h0 h1 h2 H locs ls hW hS hl
  exact lv_astoreN C.1 C.2.1 hd hl hn (x_st1_map rfl hL) (fun ls' hl' => h l G p e s m args below meth c C h0 h1 h2 H locs ls' hW hS hl')
theorem o_aloadR {k : Nat} {r : Option Nat} (j : Nat) (hd : decode μ.2.1 pc = .ok (.aload k, 2)) (hL : L[j]? = some (k, x_rf r)) (h : x_Wg d μ N0 Q N (pc + 2) L (x_rf r :: st) σ) : x_Wg d μ N0 Q N pc L st σ := by
  cases r with
  | none => exact o_aloadN j hd hL h
  | some c => exact o_aload j hd hL h
theorem o_astoreR {k : Nat} {r : Option Nat} (hd : decode μ.2.1 pc = .ok (.astore k, 2)) (hn : k < μ.2.2.1) (hL : x_st1 k (x_rf r) L = L') (h : x_Wg d μ N0 Q N (pc + 2) L' st σ) : x_Wg d μ N0 Q N pc L (x_rf r :: st) σ := by
  cases r with
  | none => exact o_astoreN hd hn hL h
  | some c => exact o_astore hd hn hL h
end XO2
theorem x_neS {x : Int32} {n : Int32} {z : Int} (hz : n.toInt = z) (h : ¬ x = n) : ¬ z = x.toInt := fun q => x_ne hz h q.symm
