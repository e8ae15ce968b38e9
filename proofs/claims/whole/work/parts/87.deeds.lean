/-! deeds, on each side -/
def w_H (A : Nat → Int) : Prop := w_A A ∧ w_D A (z_dy A) ∧ 0 ≤ A 4 ∧ A 4 ≤ 30
theorem hf_wH {τ : x_T} {A : Nat → Int} (h : x_hf 1 13 17 τ A) : w_H A := ⟨h.1, h.2.2.1, h.2.2.2.2.2.1, h.2.2.2.2.2.2.1⟩
theorem kc_b {A : Nat → Int} (h : 0 ≤ A 4 ∧ A 4 ≤ 30) : 0 ≤ z_kc A ∧ z_kc A ≤ 29 := by unfold z_kc; split <;> omega
theorem wH_keep {A : Nat → Int} (w : w_H A) : w_H (z_keep A) := by
  have q := keep_q A
  have hk := kc_b w.2.2
  refine ⟨wA_cg q w.1, wD_cg (q 0 (by omega) (by omega)) (q 1 (by omega) (by omega)) (fun k hk => (keep_lt (by omega) (by omega)).symm) w.2.1, ?_, ?_⟩
  · rw [keep_4]; omega
  · rw [keep_4]; omega
theorem wH_put {A e : Nat → Int} (w : w_H A) (wD : w_D A e) : w_H (z_put A e) := by
  refine ⟨wA_cg (fun k hk _ => (put_lt hk).symm) w.1, wD_cg (put_lt (by omega)).symm (put_lt (by omega)).symm (fun k hk => (put_dy hk).symm) wD, ?_, ?_⟩
  · rw [put_lt (by omega)]; exact w.2.2.1
  · rw [put_lt (by omega)]; exact w.2.2.2
theorem wD_k {A e : Nat → Int} (w : w_D A e) : w_D (z_keep A) e := wD_cg (keep_q A 0 (by omega) (by omega)) (keep_q A 1 (by omega) (by omega)) (fun _ _ => rfl) w
theorem dy_k (A : Nat → Int) : ∀ k, k < 114 → z_dy (z_keep A) k = z_dy A k := fun k hk => keep_lt (by omega) (by omega)
theorem hmC_fr {τ σ : x_T} {A : Nat → Int} {L : x_L2} (h : x_hm τ A L) (g : x_fr j_sC τ σ) : x_hm σ A L :=
  ⟨by rw [← h.1]; funext k; unfold j_A; rw [g.1 346 (by unfold j_sC; omega)], LM2_fr h.2 (by rw [g.1 346 (by unfold j_sC; omega)]) (fun c hc => g.1 c (by unfold j_sC; omega))⟩
theorem sD_sC (c : Nat) (h : x_sD 13 c) : j_sC c := by unfold x_sD at h; unfold j_sC; omega
theorem s17_sC (c : Nat) (h : 17 ≤ c ∧ c ≤ 138) : j_sC c := by unfold j_sC; omega
theorem s17_cc (c : Nat) (h : 17 ≤ c ∧ c ≤ 138) : (13 ≤ c ∧ c ≤ 138) ∨ 176 ≤ c := by omega
theorem s69_sM (c : Nat) (h : c = 369 ∨ c = 370) : j_sM c := by unfold j_sM; omega
theorem s46_sM (c : Nat) (h : c = 346) : j_sM c := by unfold j_sM; omega
theorem sW_sM (c : Nat) (h : x_sW c) : j_sM c := by unfold x_sW at h; unfold j_sM; omega
theorem sN_sM (c : Nat) (h : x_sN c) : j_sM c := by unfold x_sN at h; unfold j_sM; omega
theorem jA_fr {τ σ : x_T} {S : Nat → Prop} (g : x_fr S τ σ) (h : ¬ S 346) : j_A σ = j_A τ := by funext k; unfold j_A; rw [g.1 346 h]
theorem jA_at {τ : x_T} {A : Nat → Int} (h : j_A τ = A) (k : Nat) : (τ.1 346 k).toInt = A k := by rw [← h]; rfl
/-! push -/
def z_Ppush (A : Nat → Int) (L : x_L2) (a p : Int) : Nat → Int := if z_cb A (z_dy A) a p = true then z_put (z_keep A) (z_off A (x_La L A) (z_dy A) a p) else A
def z_Apush (A : Nat → Int) (L : x_L2) (a p : Int) : Int := if z_cb A (z_dy A) a p = true then z_off A (x_La L A) (z_dy A) a p 2 else -1
theorem cs_push {d : Nat} {a p : Int32} {τ : x_T} {A : Nat → Int} {L : x_L2} {K : x_T → Int32 → Prop} (hc : x_hc τ A L) (h : ∀ (σ : x_T) (u : Int32), x_fr j_sC τ σ → x_hf 1 13 17 σ (z_Ppush A L a.toInt p.toInt) → u.toInt = z_Apush A L a.toInt p.toInt → K σ u) : x_CI (d + 1 + 1 + 1 + 1) mX11_push [.ref 0, .int a, .int p] τ K := by
  have wA := hc.1.1
  have wD : w_D A (z_dy A) := hc.1.2.2.1
  have he : x_cd 13 τ (z_dy A) := hc.1.2.2.2.1
  refine e_X11_push (cl_canSetOff (Or.inl rfl) hc.1.2.1 wA he (fun z => ⟨fun _ => cl_keep hc.1 (fun σ1 f1 g1 => ?_), fun q => absurd q z_10⟩) (fun z => ⟨fun q => absurd rfl q, fun _ => h _ _ (fr_r _ _) ?_ ?_⟩))
  · refine cl_setOff (Or.inl rfl) (cc_fr (hc_cc hc) f1 s17_cc) wA (cd_fr he (f1.1 _ (by omega)) (f1.1 _ (by omega)) (f1.1 _ (by omega)) (f1.1 _ (by omega))) wD z (fun σ2 f2 g2 => h _ _ (fr_t (fr_m s17_sC f1) (fr_m sD_sC f2)) ?_ ?_)
    · rw [z_Ppush, if_pos (z_cb_i.mpr z)]
      exact hf_put g1 f2 g2 (wD_k (wD_off wA wD z))
    · rw [z_Apush, if_pos (z_cb_i.mpr z)]
      exact cd_0 g2 (by omega)
  · rw [z_Ppush, if_neg (fun y => z (z_cb_i.mp y))]; exact hc.1
  · rw [z_Apush, if_neg (fun y => z (z_cb_i.mp y))]; rfl
theorem ms_push {d : Nat} {a p : Int32} {τ : x_T} {A : Nat → Int} {L : x_L2} {K : x_T → Int32 → Prop} (hm : x_hm τ A L) (wH : w_H A) (h : ∀ (σ : x_T) (u : Int32), x_fr j_sM τ σ → j_A σ = z_Ppush A L a.toInt p.toInt → u.toInt = z_Apush A L a.toInt p.toInt → K σ u) : x_CI (d + 1 + 1 + 1 + 1 + 1) mX12_push [.ref 345, .int a, .int p] τ K := by
  have wA := wH.1
  have wD := wH.2.1
  refine e_X12_push (ml_laysNow hm wA (fun σ1 f1 g1 mc1 hm1 => ml_canPush (e := z_dy A) mc1.1 wA g1 wD (fun z => ⟨fun _ => ml_keepsStep hm1.1 wH.2.2 (fun σ2 f2 j2 => ?_), fun q => absurd q z_10⟩) (fun z => ⟨fun q => absurd rfl q, fun _ => h _ _ (fr_m s69_sM f1) ?_ ?_⟩)))
  · have mc2 : x_mc σ2 A (x_La L A) := by
      have ha : ∀ k, k < 130 → k ≠ 4 → (σ2.1 346 k).toInt = A k := fun k hk h4 => by rw [jA_at j2]; exact keep_lt h4 (by omega)
      have hm2 : x_hm σ2 (z_keep A) L := hm_fr hm1 (fr_m s46_sM f2) j2 (keep_lt (by omega) (by omega))
      exact ⟨ha, fun k hk => by rw [f2.1 369 (by omega)]; exact mc1.2.1 k hk, LM2_LM hm2.2 wA ha⟩
    refine ml_pushes (e := z_dy A) mc2 wA (md_fr g1 (f2.1 370 (by omega))) wD z (fun σ3 f3 g3 => ml_keepsNow (A := z_keep A) (by rw [jA_fr f3 (by unfold x_sW; omega), j2]) g3 (fun σ4 f4 j4 => h _ _ (fr_t (fr_m s69_sM f1) (fr_t (fr_m s46_sM f2) (fr_t (fr_m sW_sM f3) (fr_m s46_sM f4)))) ?_ ?_))
    · rw [z_Ppush, if_pos (z_cb_i.mpr z), j4]
    · rw [z_Apush, if_pos (z_cb_i.mpr z), f4.1 370 (by omega)]
      exact g3 2 (by omega)
  · rw [z_Ppush, if_neg (fun y => z (z_cb_i.mp y))]; exact hm1.1
  · rw [z_Apush, if_neg (fun y => z (z_cb_i.mp y))]; rfl
theorem P_keep {A e : Nat → Int} {k : Nat} (hk : k < 130) (h4 : k ≠ 4) : z_put (z_keep A) e k = A k := by rw [put_lt hk, keep_lt h4 (by omega)]
theorem push_3 {A : Nat → Int} {L : x_L2} {a p : Int} {k : Nat} (hk : k < 130) (h4 : k ≠ 4) : z_Ppush A L a p k = A k := by
  unfold z_Ppush
  split
  · exact P_keep hk h4
  · rfl
theorem wH_push {A : Nat → Int} (w : w_H A) (L : x_L2) (a p : Int) : w_H (z_Ppush A L a p) := by
  unfold z_Ppush
  split
  · rename_i q; exact wH_put (wH_keep w) (wD_k (wD_off w.1 w.2.1 (z_cb_i.mp q)))
  · exact w
/-! tip -/
def z_Ptip (A : Nat → Int) : Nat → Int := if 0 < A 132 then z_put (z_keep A) (z_tip (z_dy A)) else A
def z_Atip (A : Nat → Int) : Int := if 0 < A 132 then 1 else 0
theorem cs_tip {d : Nat} {τ : x_T} {A : Nat → Int} {L : x_L2} {K : x_T → Int32 → Prop} (hc : x_hc τ A L) (h : ∀ (σ : x_T) (u : Int32), x_fr j_sC τ σ → x_hf 1 13 17 σ (z_Ptip A) → u.toInt = z_Atip A → K σ u) : x_CI (d + 1 + 1 + 1) mX11_tip [.ref 0] τ K := by
  have wD : w_D A (z_dy A) := hc.1.2.2.1
  have he : x_cd 13 τ (z_dy A) := hc.1.2.2.2.1
  have e2 : (τ.1 13 2).toInt = A 132 := cd_0 he (k := 2) (by omega)
  refine e_X11_tip ⟨fun q => cl_keep hc.1 (fun σ1 f1 g1 => ?_), fun q => h _ _ (fr_r _ _) ?_ ?_⟩
  · rw [z_lt, e2] at q; simp only [Int32.reduceToInt] at q
    refine cl_tipOver (Or.inl rfl) (cd_fr he (f1.1 _ (by omega)) (f1.1 _ (by omega)) (f1.1 _ (by omega)) (f1.1 _ (by omega))) wD (fun σ2 f2 g2 => h _ _ (fr_t (fr_m s17_sC f1) (fr_m sD_sC f2)) ?_ ?_)
    · rw [z_Ptip, if_pos q]; exact hf_put g1 f2 g2 (wD_k (wD_tip wD))
    · rw [z_Atip, if_pos q]; rfl
  · rw [z_lt, e2] at q; simp only [Int32.reduceToInt] at q
    rw [z_Ptip, if_neg q]; exact hc.1
  · rw [z_lt, e2] at q; simp only [Int32.reduceToInt] at q
    rw [z_Atip, if_neg q]; rfl
theorem md_k {σ : x_T} {A : Nat → Int} (g : x_md σ (fun k => z_keep A (130 + k))) : x_md σ (z_dy A) := md_cg g (fun k hk => dy_k A k hk)
theorem ms_tip {d : Nat} {τ : x_T} {A : Nat → Int} {L : x_L2} {K : x_T → Int32 → Prop} (hm : x_hm τ A L) (wH : w_H A) (h : ∀ (σ : x_T) (u : Int32), x_fr j_sM τ σ → j_A σ = z_Ptip A → u.toInt = z_Atip A → K σ u) : x_CI (d + 1 + 1) mX12_tip [.ref 345] τ K := by
  have wD := wH.2.1
  have e2 : (τ.1 346 132).toInt = A 132 := jA_at hm.1 132
  have w2 : 0 ≤ A 132 := wD.2.1.1
  refine e_X12_tip ⟨fun q => ml_keepsStep hm.1 wH.2.2 (fun σ1 f1 j1 => ml_laysNow (hm_fr hm (fr_m s46_sM f1) j1 (keep_lt (by omega) (by omega))) (wH_keep wH).1 (fun σ2 f2 g2 mc2 hm2 => ml_tips (md_k g2) wD (fun σ3 f3 g3 => ml_keepsNow (A := z_keep A) (by rw [jA_fr f3 (by unfold x_sW; omega), hm2.1]) g3 (fun σ4 f4 j4 => h _ _ (fr_t (fr_m s46_sM f1) (fr_t (fr_m s69_sM f2) (fr_t (fr_m sW_sM f3) (fr_m s46_sM f4)))) ?_ ?_)))), fun q => h _ _ (fr_r _ _) ?_ ?_⟩
  · rw [z_eq, e2] at q; simp only [Int32.reduceToInt] at q
    rw [z_Ptip, if_pos (by omega), j4]
  · rw [z_eq, e2] at q; simp only [Int32.reduceToInt] at q
    rw [z_Atip, if_pos (by omega)]; rfl
  · rw [z_eq, e2] at q; simp only [Int32.reduceToInt] at q
    rw [z_Ptip, if_neg (by omega)]; exact hm.1
  · rw [z_eq, e2] at q; simp only [Int32.reduceToInt] at q
    rw [z_Atip, if_neg (by omega)]; rfl
theorem tip_3 {A : Nat → Int} {k : Nat} (hk : k < 130) (h4 : k ≠ 4) : z_Ptip A k = A k := by
  unfold z_Ptip
  split
  · exact P_keep hk h4
  · rfl
theorem wH_tip {A : Nat → Int} (w : w_H A) : w_H (z_Ptip A) := by
  unfold z_Ptip
  split
  · exact wH_put (wH_keep w) (wD_k (wD_tip w.2.1))
  · exact w
/-! mend -/
def z_Pmend (A : Nat → Int) : Nat → Int := if A 134 = 99 then A else z_put (z_keep A) (z_set (z_dy A) 4 99)
def z_Amend (A : Nat → Int) : Int := if A 134 = 99 then 0 else 1
theorem cs_mend {d : Nat} {τ : x_T} {A : Nat → Int} {L : x_L2} {K : x_T → Int32 → Prop} (hc : x_hc τ A L) (h : ∀ (σ : x_T) (u : Int32), x_fr j_sC τ σ → x_hf 1 13 17 σ (z_Pmend A) → u.toInt = z_Amend A → K σ u) : x_CI (d + 1 + 1 + 1) mX11_mend [.ref 0] τ K := by
  have wD : w_D A (z_dy A) := hc.1.2.2.1
  have he : x_cd 13 τ (z_dy A) := hc.1.2.2.2.1
  have e2 : (τ.1 13 4).toInt = A 134 := cd_0 he (k := 4) (by omega)
  refine e_X11_mend ⟨fun q => cl_keep hc.1 (fun σ1 f1 g1 t3 e3 => ?_), fun q => h _ _ (fr_r _ _) ?_ ?_⟩
  · rw [z_eq, e2] at q; simp only [Int32.reduceToInt] at q
    have he1 := cd_w0 (cd_fr he (f1.1 _ (by omega)) (f1.1 _ (by omega)) (f1.1 _ (by omega)) (f1.1 _ (by omega))) (k := 4) (by omega) (v := 99) (z := 99) (by decide)
    have f3 : x_fr (x_sD 13) σ1 t3 := by rw [e3]; exact fr_w (fr_r _ _) (Or.inl (by omega))
    rw [← e3] at he1
    refine h _ _ (fr_t (fr_m s17_sC f1) (fr_m sD_sC f3)) ?_ ?_
    · rw [z_Pmend, if_neg q]
      exact hf_put g1 f3 he1 (wD_k (wD_4 wD (by omega)))
    · rw [z_Amend, if_neg q]; rfl
  · rw [z_eq, e2] at q; simp only [Int32.reduceToInt] at q
    rw [z_Pmend, if_pos q]; exact hc.1
  · rw [z_eq, e2] at q; simp only [Int32.reduceToInt] at q
    rw [z_Amend, if_pos q]; rfl
theorem ms_mend {d : Nat} {τ : x_T} {A : Nat → Int} {L : x_L2} {K : x_T → Int32 → Prop} (hm : x_hm τ A L) (wH : w_H A) (h : ∀ (σ : x_T) (u : Int32), x_fr j_sM τ σ → j_A σ = z_Pmend A → u.toInt = z_Amend A → K σ u) : x_CI (d + 1) mX12_mend [.ref 345] τ K := by
  have e2 : (τ.1 346 134).toInt = A 134 := jA_at hm.1 134
  refine e_X12_mend ⟨fun q => ml_keepsStep hm.1 wH.2.2 (fun σ1 f1 j1 t3 e3 => ?_), fun q => h _ _ (fr_r _ _) ?_ ?_⟩
  · rw [z_eq, e2] at q; simp only [Int32.reduceToInt] at q
    subst e3
    refine h _ _ (fr_w (fr_m s46_sM f1) (Or.inl rfl)) ?_ ?_
    · rw [z_Pmend, if_neg q]
      funext k
      unfold j_A z_put z_set z_dy
      rw [w1_at]
      by_cases r : k = 134
      · rw [if_pos ⟨rfl, r⟩, if_pos (by omega), if_pos (by omega)]; rfl
      · rw [if_neg (fun z => r z.2), jA_at j1]
        by_cases s : 130 ≤ k ∧ k < 244
        · rw [if_pos s, if_neg (by omega), keep_lt (by omega) (by omega), show 130 + (k - 130) = k by omega]
        · rw [if_neg s]
    · rw [z_Amend, if_neg q]; rfl
  · rw [z_eq, e2] at q; simp only [Int32.reduceToInt] at q
    rw [z_Pmend, if_pos q]; exact hm.1
  · rw [z_eq, e2] at q; simp only [Int32.reduceToInt] at q
    rw [z_Amend, if_pos q]; rfl
theorem mend_3 {A : Nat → Int} {k : Nat} (hk : k < 130) (h4 : k ≠ 4) : z_Pmend A k = A k := by
  unfold z_Pmend
  split
  · rfl
  · exact P_keep hk h4
theorem wH_mend {A : Nat → Int} (w : w_H A) : w_H (z_Pmend A) := by
  unfold z_Pmend
  split
  · exact w
  · exact wH_put (wH_keep w) (wD_k (wD_4 w.2.1 (by omega)))
