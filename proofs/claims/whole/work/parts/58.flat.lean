def x_fl : List Cond := flatC (Jvm.Cond.and given_1 narrow_1)
def x_tN : Term := .static "NoonOnABarrow" "NAMED_IN" "[I"
def x_tS (i : Nat) : Term := if i = 0 then .string "NoonOnABarrow$Tape" 59 else .string "NoonOnABarrow$Tape" 75
def x_eN (j : Nat) : Cond := Cond.eq (.elem x_tN (.int (Int32.ofNat j))) (.int (x_named.getD j 0))
def x_eW (j : Nat) : Cond := Cond.eq (.elem (.field (x_tS 0) "java/lang/String" "value" "[B") (.int (Int32.ofNat j))) (.int (x_words.getD j 0))
def x_eS (j : Nat) : Cond := Cond.eq (.elem (.field (x_tS 1) "java/lang/String" "value" "[B") (.int (Int32.ofNat j))) (.int (x_signs.getD j 0))
theorem x_flN : ∀ j, j < 32 → x_fl[12 + j]? = some (x_eN j) := by decide +kernel
theorem x_flS1 : ∀ j, j < 11 → x_fl[238 + j]? = some (x_eS j) := by decide +kernel
theorem x_flW0 : ∀ j, j < 10 → x_fl[74 + j]? = some (x_eW (0 + j)) := by decide +kernel
theorem x_flW1 : ∀ j, j < 10 → x_fl[84 + j]? = some (x_eW (10 + j)) := by decide +kernel
theorem x_flW2 : ∀ j, j < 10 → x_fl[94 + j]? = some (x_eW (20 + j)) := by decide +kernel
theorem x_flW3 : ∀ j, j < 10 → x_fl[104 + j]? = some (x_eW (30 + j)) := by decide +kernel
theorem x_flW4 : ∀ j, j < 10 → x_fl[114 + j]? = some (x_eW (40 + j)) := by decide +kernel
theorem x_flW5 : ∀ j, j < 10 → x_fl[124 + j]? = some (x_eW (50 + j)) := by decide +kernel
theorem x_flW6 : ∀ j, j < 10 → x_fl[134 + j]? = some (x_eW (60 + j)) := by decide +kernel
theorem x_flW7 : ∀ j, j < 10 → x_fl[144 + j]? = some (x_eW (70 + j)) := by decide +kernel
theorem x_flW8 : ∀ j, j < 10 → x_fl[154 + j]? = some (x_eW (80 + j)) := by decide +kernel
theorem x_flW9 : ∀ j, j < 10 → x_fl[164 + j]? = some (x_eW (90 + j)) := by decide +kernel
theorem x_flW10 : ∀ j, j < 10 → x_fl[174 + j]? = some (x_eW (100 + j)) := by decide +kernel
theorem x_flW11 : ∀ j, j < 10 → x_fl[184 + j]? = some (x_eW (110 + j)) := by decide +kernel
theorem x_flW12 : ∀ j, j < 10 → x_fl[194 + j]? = some (x_eW (120 + j)) := by decide +kernel
theorem x_flW13 : ∀ j, j < 10 → x_fl[204 + j]? = some (x_eW (130 + j)) := by decide +kernel
theorem x_flW14 : ∀ j, j < 10 → x_fl[214 + j]? = some (x_eW (140 + j)) := by decide +kernel
theorem x_flW15 : ∀ j, j < 10 → x_fl[224 + j]? = some (x_eW (150 + j)) := by decide +kernel
theorem x_flW : ∀ j, j < 160 → x_eW j ∈ x_fl := by
  intro j hj
  rcases Nat.lt_or_ge j 10 with h | h
  · have := x_flW0 (j - 0) (by omega); rw [show 0 + (j - 0) = j by omega] at this; exact List.mem_of_getElem? this
  rcases Nat.lt_or_ge j 20 with h | h
  · have := x_flW1 (j - 10) (by omega); rw [show 10 + (j - 10) = j by omega] at this; exact List.mem_of_getElem? this
  rcases Nat.lt_or_ge j 30 with h | h
  · have := x_flW2 (j - 20) (by omega); rw [show 20 + (j - 20) = j by omega] at this; exact List.mem_of_getElem? this
  rcases Nat.lt_or_ge j 40 with h | h
  · have := x_flW3 (j - 30) (by omega); rw [show 30 + (j - 30) = j by omega] at this; exact List.mem_of_getElem? this
  rcases Nat.lt_or_ge j 50 with h | h
  · have := x_flW4 (j - 40) (by omega); rw [show 40 + (j - 40) = j by omega] at this; exact List.mem_of_getElem? this
  rcases Nat.lt_or_ge j 60 with h | h
  · have := x_flW5 (j - 50) (by omega); rw [show 50 + (j - 50) = j by omega] at this; exact List.mem_of_getElem? this
  rcases Nat.lt_or_ge j 70 with h | h
  · have := x_flW6 (j - 60) (by omega); rw [show 60 + (j - 60) = j by omega] at this; exact List.mem_of_getElem? this
  rcases Nat.lt_or_ge j 80 with h | h
  · have := x_flW7 (j - 70) (by omega); rw [show 70 + (j - 70) = j by omega] at this; exact List.mem_of_getElem? this
  rcases Nat.lt_or_ge j 90 with h | h
  · have := x_flW8 (j - 80) (by omega); rw [show 80 + (j - 80) = j by omega] at this; exact List.mem_of_getElem? this
  rcases Nat.lt_or_ge j 100 with h | h
  · have := x_flW9 (j - 90) (by omega); rw [show 90 + (j - 90) = j by omega] at this; exact List.mem_of_getElem? this
  rcases Nat.lt_or_ge j 110 with h | h
  · have := x_flW10 (j - 100) (by omega); rw [show 100 + (j - 100) = j by omega] at this; exact List.mem_of_getElem? this
  rcases Nat.lt_or_ge j 120 with h | h
  · have := x_flW11 (j - 110) (by omega); rw [show 110 + (j - 110) = j by omega] at this; exact List.mem_of_getElem? this
  rcases Nat.lt_or_ge j 130 with h | h
  · have := x_flW12 (j - 120) (by omega); rw [show 120 + (j - 120) = j by omega] at this; exact List.mem_of_getElem? this
  rcases Nat.lt_or_ge j 140 with h | h
  · have := x_flW13 (j - 130) (by omega); rw [show 130 + (j - 130) = j by omega] at this; exact List.mem_of_getElem? this
  rcases Nat.lt_or_ge j 150 with h | h
  · have := x_flW14 (j - 140) (by omega); rw [show 140 + (j - 140) = j by omega] at this; exact List.mem_of_getElem? this
  rcases Nat.lt_or_ge j 160 with h | h
  · have := x_flW15 (j - 150) (by omega); rw [show 150 + (j - 150) = j by omega] at this; exact List.mem_of_getElem? this
  omega
theorem x_flE : x_fl[10]? = some (Cond.arrayOf x_tN .int) ∧ x_fl[11]? = some (Cond.eq (.length x_tN) (.int (Int32.ofNat 32))) ∧ x_fl[4]? = some (Cond.eq (.static "java/lang/String" "COMPACT_STRINGS" "Z") (.int 1)) := by decide +kernel
theorem x_flT0 : x_fl[70]? = some (Cond.exactly (x_tS 0) "java/lang/String") ∧ x_fl[71]? = some (Cond.eq (.field (x_tS 0) "java/lang/String" "coder" "B") (.int 0)) ∧ x_fl[72]? = some (Cond.arrayOf (.field (x_tS 0) "java/lang/String" "value" "[B") .byte) ∧ x_fl[73]? = some (Cond.eq (.length (.field (x_tS 0) "java/lang/String" "value" "[B")) (.int (Int32.ofNat 160))) := by decide +kernel
theorem x_flT1 : x_fl[234]? = some (Cond.exactly (x_tS 1) "java/lang/String") ∧ x_fl[235]? = some (Cond.eq (.field (x_tS 1) "java/lang/String" "coder" "B") (.int 0)) ∧ x_fl[236]? = some (Cond.arrayOf (.field (x_tS 1) "java/lang/String" "value" "[B") .byte) ∧ x_fl[237]? = some (Cond.eq (.length (.field (x_tS 1) "java/lang/String" "value" "[B")) (.int (Int32.ofNat 11))) := by decide +kernel
theorem x_flD : x_fl[249]? = some (Cond.not (Cond.eq (x_tS 0) (x_tS 1))) := by decide +kernel
theorem x_flP : x_fl[5]? = some (Cond.isRef (.static "jdk/internal/util/Preconditions" "SIOOBE_FORMATTER" "Ljava/util/function/BiFunction;")) := by decide +kernel
