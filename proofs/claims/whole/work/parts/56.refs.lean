def x_s00 : x_S := (fun _ _ => 0, fun _ _ => 0, fun _ _ => none)
def x_sC : x_S := s11 (x_nw x_s00 0)
def x_sM : x_S := s12 (x_nw x_sC 345)
def x_tM : x_T := (x_sM.1, x_sM.2.1, 320, none)
/-- a slot that holds a reference -/
def x_isr (c k : Nat) : Bool := match x_sh c with
  | (20, _) => false
  | (21, _) => false
  | (22, _) => false
  | (23, _) => true
  | (24, _) => true
  | (t, _) => match x_ty t k with
    | .int => false
    | .long => false
    | _ => true
set_option maxRecDepth 100000 in
theorem x_refs : ∀ c, c < 376 → ∀ k, k < 48 → k < (x_sh c).2 → x_isr c k = true → x_sM.2.2 c k = (x_fu x_tM).2.2 c k := by decide +kernel
theorem x_Mt.congr' {d : Nat} {μ : x_M} {N : Nat} {vs : List Value} {σ σ' : x_S} {Q : x_S → Option Value → Prop} (hw : ∀ G H, x_W G N σ H → x_W G N σ' H) (h : x_Mt d μ N vs σ' Q) : x_Mt d μ N vs σ Q := by
  intro l G p e a1 a2 a3 s m args below b1 b2 b3 b4
  obtain ⟨c1, c2, c3, c4⟩ := b3
  exact h l G p e a1 a2 a3 s m args below b1 b2 ⟨c1, c2, hw G _ c3, c4⟩ b4
theorem x_arrV_congr {cA : ClassId} {n : Nat} {f g : Nat → Value} (h : ∀ j, j < n → f j = g j) : arrV cA n f = arrV cA n g := by
  unfold arrV
  congr 1
  congr 1
  funext j
  exact h j.val j.isLt
theorem x_el_oo {G : x_G} {σ : x_S} {c t n : Nat} (h : x_sh c = (t, n)) (ht : ¬ (20 ≤ t ∧ t ≤ 24)) : x_el G σ c = .inr (t, (List.range n).map (fun k => x_ad G.2.2.1 (x_av (x_ty t k) σ c k))) := by
  unfold x_el
  rw [h]
  split
  · rename_i q; have := (Prod.mk.inj q).1; omega
  · rename_i q; have := (Prod.mk.inj q).1; omega
  · rename_i q; have := (Prod.mk.inj q).1; omega
  · rename_i q; have := (Prod.mk.inj q).1; omega
  · rename_i q; have := (Prod.mk.inj q).1; omega
  · rename_i q; have q1 := (Prod.mk.inj q).1; have q2 := (Prod.mk.inj q).2; subst q1; subst q2; rfl
theorem x_isr_oo {c t n k : Nat} (h : x_sh c = (t, n)) (ht : ¬ (20 ≤ t ∧ t ≤ 24)) (h1 : ¬ x_ty t k = .int) (h2 : ¬ x_ty t k = .long) : x_isr c k = true := by
  unfold x_isr
  rw [h]
  split
  · rename_i q; have := (Prod.mk.inj q).1; omega
  · rename_i q; have := (Prod.mk.inj q).1; omega
  · rename_i q; have := (Prod.mk.inj q).1; omega
  · rfl
  · rfl
  · rename_i q; have q1 := (Prod.mk.inj q).1; subst q1
    split
    · rename_i e; exact absurd e h1
    · rename_i e; exact absurd e h2
    · rfl
theorem x_W_of {G : x_G} {N : Nat} {σ σ' : x_S} {H : Heap} (h1 : σ.1 = σ'.1) (h2 : σ.2.1 = σ'.2.1) (h3 : ∀ c, c < N → ∀ k, k < (x_sh c).2 → x_isr c k = true → σ.2.2 c k = σ'.2.2 c k) (hW : x_W G N σ H) : x_W G N σ' H := by
  intro c q hq
  obtain ⟨hc, rfl⟩ := x_ws_inv hq
  have hw := hW c _ (x_ws_at hc)
  have h3 := h3 c hc
  cases hs : x_sh c with
  | mk t n =>
    rw [hs] at h3
    by_cases ht : 20 ≤ t ∧ t ≤ 24
    · rcases (show t = 20 ∨ t = 21 ∨ t = 22 ∨ t = 23 ∨ t = 24 by omega) with rfl | rfl | rfl | rfl | rfl
      · rw [x_el_i hs] at hw ⊢; rw [← h1]; exact hw
      · rw [x_el_b hs] at hw ⊢; rw [← h1]; exact hw
      · rw [x_el_l hs] at hw ⊢; rw [← h2]; exact hw
      · rw [x_el_t hs] at hw ⊢
        have hw : H[G.2.2.1 + c]? = some (vp_cell _ _) := hw
        show H[G.2.2.1 + c]? = some (vp_cell _ _)
        rw [vp_cell_q] at hw ⊢
        rw [hw]
        congr 1
        exact x_arrV_congr (fun j hj => by rw [h3 j hj (by unfold x_isr; rw [hs]; rfl)])
      · rw [x_el_d hs] at hw ⊢
        have hw : H[G.2.2.1 + c]? = some (vp_cell _ _) := hw
        show H[G.2.2.1 + c]? = some (vp_cell _ _)
        rw [vp_cell_q] at hw ⊢
        rw [hw]
        congr 1
        exact x_arrV_congr (fun j hj => by rw [h3 j hj (by unfold x_isr; rw [hs]; rfl)])
    · rw [x_el_oo hs ht] at hw ⊢
      have : (List.range n).map (fun k => x_ad G.2.2.1 (x_av (x_ty t k) σ c k)) = (List.range n).map (fun k => x_ad G.2.2.1 (x_av (x_ty t k) σ' c k)) := by
        apply List.map_congr_left
        intro k hk
        have hk := List.mem_range.mp hk
        congr 1
        unfold x_av
        split
        · rw [h1]
        · rw [h2]
        · rename_i na nb
          rw [h3 k hk (x_isr_oo hs ht na nb)]
      rw [this] at hw
      exact hw
