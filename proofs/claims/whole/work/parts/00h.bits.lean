/-! bits of a word: places 0 to 20 -/
def TB (w : Int32) (k : Int) : Prop := w.toBitVec.getLsbD k.toNat = true
section
variable {k j : Int} {w : Int32}
theorem k20 (h : 0 ≤ k ∧ k ≤ 20) : k = 0 ∨ k = 1 ∨ k = 2 ∨ k = 3 ∨ k = 4 ∨ k = 5 ∨ k = 6 ∨ k = 7 ∨ k = 8 ∨ k = 9 ∨ k = 10 ∨ k = 11 ∨ k = 12 ∨ k = 13 ∨ k = 14 ∨ k = 15 ∨ k = 16 ∨ k = 17 ∨ k = 18 ∨ k = 19 ∨ k = 20 := by omega
theorem sh_one (h : 0 ≤ k ∧ k ≤ 20) : (J 1 <<< (J k &&& J 31)).toBitVec = BitVec.twoPow 32 k.toNat := by
  rcases k20 h with e | e | e | e | e | e | e | e | e | e | e | e | e | e | e | e | e | e | e | e | e <;> subst e <;> rfl
theorem sh_right (h : 0 ≤ k ∧ k ≤ 20) : (w >>> (J k &&& J 31)).toBitVec = w.toBitVec.sshiftRight k.toNat := by
  rcases k20 h with e | e | e | e | e | e | e | e | e | e | e | e | e | e | e | e | e | e | e | e | e <;> subst e <;> rfl
theorem tb_rd (h : 0 ≤ k ∧ k ≤ 20) : ((w >>> (J k &&& J 31)) &&& J 1).toBitVec = BitVec.setWidth 32 (BitVec.ofBool (w.toBitVec.getLsbD k.toNat)) := by
  show (w >>> (J k &&& J 31)).toBitVec &&& 1#32 = _
  rw [BitVec.and_one_eq_setWidth_ofBool_getLsbD, sh_right h, BitVec.getLsbD_sshiftRight, if_pos (by omega)]
  rfl
theorem tb_rd1 (h : (0 ≤ k ∧ k ≤ 20)) (q : TB w k) : (w >>> (J k &&& J 31)) &&& J 1 = J 1 := by
  apply Int32.toBitVec_inj.mp
  rw [tb_rd h, show w.toBitVec.getLsbD k.toNat = true from q]
  rfl
theorem tb_rd0 (h : (0 ≤ k ∧ k ≤ 20)) (q : ¬ TB w k) : (w >>> (J k &&& J 31)) &&& J 1 = J 0 := by
  apply Int32.toBitVec_inj.mp
  rw [tb_rd h, show w.toBitVec.getLsbD k.toNat = false from Bool.eq_false_iff.mpr q]
  rfl
theorem tb_bit0 (h : (0 ≤ k ∧ k ≤ 20)) (q : ¬ TB w k) : w &&& (J 1 <<< (J k &&& J 31)) = J 0 := by
  apply Int32.toBitVec_inj.mp
  show w.toBitVec &&& (J 1 <<< (J k &&& J 31)).toBitVec = _
  rw [sh_one h, BitVec.and_twoPow, if_neg (show ¬ w.toBitVec.getLsbD k.toNat = true from q)]
  rfl
theorem tb_bit1 (h : (0 ≤ k ∧ k ≤ 20)) (q : TB w k) : ¬ w &&& (J 1 <<< (J k &&& J 31)) = J 0 := by
  intro z
  have z := congrArg Int32.toBitVec z
  have z : w.toBitVec &&& (J 1 <<< (J k &&& J 31)).toBitVec = 0#32 := z
  rw [sh_one h, BitVec.and_twoPow, if_pos (show w.toBitVec.getLsbD k.toNat = true from q)] at z
  have z2 := congrArg (fun b : BitVec 32 => b.getLsbD k.toNat) z
  have z2 : (BitVec.twoPow 32 k.toNat).getLsbD k.toNat = (0#32).getLsbD k.toNat := z2
  rw [BitVec.getLsbD_twoPow, BitVec.getLsbD_zero] at z2
  have h2 : k.toNat < 32 := by omega
  simp [h2] at z2
theorem tb_or (h : (0 ≤ k ∧ k ≤ 20) ∧ 0 ≤ j ∧ j ≤ 20) : TB (w ||| (J 1 <<< (J k &&& J 31))) j ↔ TB w j ∨ j = k := by
  show (w.toBitVec ||| (J 1 <<< (J k &&& J 31)).toBitVec).getLsbD j.toNat = true ↔ w.toBitVec.getLsbD j.toNat = true ∨ j = k
  rw [sh_one h.1, BitVec.getLsbD_or, BitVec.getLsbD_twoPow, Bool.or_eq_true, Bool.and_eq_true, decide_eq_true_eq, decide_eq_true_eq]
  exact or_congr Iff.rfl ⟨fun z => by omega, fun z => by omega⟩
theorem tb_clr (h : (0 ≤ k ∧ k ≤ 20) ∧ 0 ≤ j ∧ j ≤ 20) : TB (w &&& ((J 1 <<< (J k &&& J 31)) ^^^ J (-1))) j ↔ TB w j ∧ ¬ j = k := by
  show (w.toBitVec &&& ((J 1 <<< (J k &&& J 31)).toBitVec ^^^ BitVec.allOnes 32)).getLsbD j.toNat = true ↔ w.toBitVec.getLsbD j.toNat = true ∧ ¬ j = k
  rw [sh_one h.1, BitVec.getLsbD_and, BitVec.getLsbD_xor, BitVec.getLsbD_twoPow, BitVec.getLsbD_allOnes, Bool.and_eq_true]
  have h2 : k.toNat < 32 := by omega
  have h3 : j.toNat < 32 := by omega
  simp only [h2, h3, decide_true, Bool.true_and, Bool.bne_true, Bool.not_eq_true', decide_eq_false_iff_not]
  exact and_congr Iff.rfl ⟨fun z => by omega, fun z => by omega⟩
theorem tb_zero : ¬ TB (J 0) j := by
  show ¬ (0#32).getLsbD j.toNat = true
  rw [BitVec.getLsbD_zero]
  exact Bool.false_ne_true
theorem tb_mid (h : 0 ≤ j ∧ j ≤ 20) : TB (J 1024) j ↔ j = 10 := by
  rcases k20 h with e | e | e | e | e | e | e | e | e | e | e | e | e | e | e | e | e | e | e | e | e <;> subst e <;> unfold TB <;> decide
end
