/-! the model begins: one thing -/
theorem mO_num {b : Nat → Int} {n w P o p a : Nat} (ha : a < 400) (hk : q_K b n p = 45) (hv : 0 ≤ q_V b n p ∧ q_V b n p ≤ 9999) : q_Rw b n w 1 o p a (q_EO b n w P o a (p + 1) [(400, q_V b n p)]) := by
  intro K0 σ f u hf hs hE
  have z := hs.2.1.2.2.2.1 hk
  have e17 : σ.1 345 17 = 2 := z_eq.mpr z.1
  have e18 : (σ.1 345 18).toInt = q_V b n p := by omega
  have go : (¬ σ.1 345 17 = 2 → False) := fun q => q e17
  refine lp_at hs (by omega) (fun q => by omega) (fun _ => e_X12_begins ?_) (fun q => by omega) (fun q => by omega)
  have g : ∀ a2 : Int32, (σ.1 345 18 ≤ 9999 → x_CV 1998 mX12_emits [.ref 345, .int 400, .int (σ.1 345 18)] σ (fun t26 => x_CV 1998 mX12_next [.ref 345] t26 (fun t28 => x_CV 1998 mX12_oneIsOver [.ref 345] t28 (fun t30 => q_lp K0 t30)))) ∧ (¬ σ.1 345 18 ≤ 9999 → x_CV 1998 mX12_errs [.ref 345, .int 2] σ (fun t32 => q_lp K0 t32)) := by
    intro a2
    refine ⟨fun _ => mq_emits hs ha (fun t1 b1 k1 e1 e2 => mq_next (d := 1996) b1 (fun t2 b2 k2 => e_X12_oneIsOver (d := 1997) (hE t2 1 ⟨b2, kq_t (kq_le k1 ?_ ?_ (Nat.le_refl _)) k2 ?_ ?_ ?_, cm_1 ?_ ⟨fun _ => ?_, fun q => absurd q (by decide)⟩⟩))), fun q => ?_⟩
    · sorry
    · sorry
    · sorry
    · sorry
    · omega
    · rw [(k2.2.2.2.2.2 a (by omega)).1, e1]; rfl
    · rw [(k2.2.2.2.2.2 a (by omega)).2, e2]; exact e18
    · rw [z_le, e18] at q; exact absurd hv.2 q
  exact mq_name hs (fun j a2 _ _ _ => ⟨fun q => absurd e17 q, fun _ => g a2⟩) (fun _ => ⟨fun q => absurd e17 q, fun _ => g 0⟩)
