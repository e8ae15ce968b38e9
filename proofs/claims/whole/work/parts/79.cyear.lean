theorem cl_setOffAsDrawn {d D : Nat} (hD : D = 13 ∨ D = 341) {τ : x_T} {A e : Nat → Int} {L : x_L} {K : x_T → Prop} (cc : x_cc τ A L) (wA : w_A A) (he : x_cd D τ e) (wD : w_D A e) (hn : 0 < A 0) (h : ∀ (σ : x_T), x_fr (x_sD D) τ σ → x_cd D σ (z_ho A L e) → K σ) : x_CV (d + 1 + 1 + 1 + 1) mX2_setOffAsDrawn [.ref 332, .ref D] τ K := by
  have w0 := wA.1
  have c0 := cc.1.1
  have c1 := cc.1.2.1
  refine e_X2_setOffAsDrawn (sh_D hD) ⟨fun q => ?_, fun q => h _ (fr_r _ _) ?_⟩
  · rw [z_eq, c1] at q
    simp only [Int32.reduceToInt] at q
    refine cl_draw hD he wD (by omega) (fun σ1 u1 f1 g1 h1 => ?_)
    have cc1 := cc_fr cc f1 (sD_cc hD)
    have c11 := cc1.1.2.1
    refine cl_draw hD g1 (wD_dx wD) (by omega) (fun σ2 u2 f2 g2 h2 => ?_)
    rw [c0] at h1
    rw [c11] at h2
    have cc2 := cc_fr cc1 f2 (sD_cc hD)
    refine cl_canSetOff hD cc2.1 wA g2 (fun hc => ⟨fun q => absurd q z_10, fun _ => cl_setOff hD cc2 wA g2 (wD_dx (wD_dx wD)) hc (fun σ3 f3 g3 => h _ (fr_t f1 (fr_t f2 f3)) ?_)⟩) (fun hc => ⟨fun _ => h _ (fr_t f1 f2) ?_, fun q => absurd rfl q⟩)
    · rw [h1, h2] at hc g3
      rw [z_ho, if_neg q, if_pos (z_cb_i.mpr hc)]; exact g3
    · rw [h1, h2] at hc
      rw [z_ho, if_neg q, if_neg (fun z => hc (z_cb_i.mp z))]; exact g2
  · rw [z_eq, c1] at q
    simp only [Int32.reduceToInt] at q
    rw [z_ho, if_pos q]; exact he
theorem cl_doAsDrawn {d D : Nat} (hD : D = 13 ∨ D = 341) {τ : x_T} {A e : Nat → Int} {L : x_L} {K : x_T → Prop} (cc : x_cc τ A L) (wA : w_A A) (he : x_cd D τ e) (wD : w_D A e) (hn : 0 < A 0) (h : ∀ (σ : x_T), x_fr (x_sD D) τ σ → x_cd D σ (z_hap A L e) → K σ) : x_CV (d + 1 + 1 + 1 + 1 + 1) mX2_doAsDrawn [.ref 332, .ref D] τ K := by
  refine e_X2_doAsDrawn (sh_D hD) (cl_draw hD he wD (by decide) (fun σ1 u f1 g1 hu => ?_))
  simp only [Int32.reduceToInt] at hu
  have cc1 := cc_fr cc f1 (sD_cc hD)
  have w1 := wD_dx wD
  refine ⟨fun q => cl_setOffAsDrawn hD cc1 wA g1 w1 hn (fun σ2 f2 g2 => h _ (fr_t f1 f2) ?_), fun q0 => ⟨fun q => cl_setOffAsDrawn hD cc1 wA g1 w1 hn (fun σ2 f2 g2 => h _ (fr_t f1 f2) ?_), fun q1 => ⟨fun q => ⟨fun r => h _ f1 ?_, fun r => cl_tipOver hD g1 w1 (fun σ2 f2 g2 => h _ (fr_t f1 f2) ?_)⟩, fun q2 => ⟨fun q t9 e9 => ?_, fun q3 => ⟨fun r => h _ f1 ?_, fun r => cl_passMinute hD cc1 wA g1 w1 (fun σ2 u2 f2 g2 _ => h _ (fr_t f1 f2) ?_)⟩⟩⟩⟩⟩
  · rw [z_eq, hu] at q; simp only [Int32.reduceToInt] at q
    rw [z_hap, if_pos (Or.inl q)]; exact g2
  · rw [z_eq, hu] at q; simp only [Int32.reduceToInt] at q
    rw [z_hap, if_pos (Or.inr q)]; exact g2
  · rw [z_eq, hu] at q; simp only [Int32.reduceToInt] at q
    rw [z_le, cd_0 g1 (k := 2) (by omega)] at r; simp only [Int32.reduceToInt] at r
    rw [z_hap, if_neg (by omega), if_pos q, if_pos r]; exact g1
  · rw [z_eq, hu] at q; simp only [Int32.reduceToInt] at q
    rw [z_le, cd_0 g1 (k := 2) (by omega)] at r; simp only [Int32.reduceToInt] at r
    rw [z_hap, if_neg (by omega), if_pos q, if_neg r]; exact g2
  · rw [z_eq, hu] at q; simp only [Int32.reduceToInt] at q
    subst e9
    refine h _ (fr_w f1 (Or.inl (by omega))) ?_
    rw [z_hap, if_neg (by omega), if_neg (by omega), if_pos q]
    exact cd_w0 g1 (by omega) (by decide)
  · rw [z_eq, hu] at q0 q1 q2 q3; simp only [Int32.reduceToInt] at q0 q1 q2 q3
    rw [z_le, cd_0 g1 (k := 5) (by omega)] at r; simp only [Int32.reduceToInt] at r
    rw [z_hap, if_neg (by omega), if_neg q2, if_neg q3, if_pos r]; exact g1
  · rw [z_eq, hu] at q0 q1 q2 q3; simp only [Int32.reduceToInt] at q0 q1 q2 q3
    rw [z_le, cd_0 g1 (k := 5) (by omega)] at r; simp only [Int32.reduceToInt] at r
    rw [z_hap, if_neg (by omega), if_neg q2, if_neg q3, if_neg r]; exact g2
