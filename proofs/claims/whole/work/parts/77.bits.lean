/-! bits -/
def bitN (c : Int32) (k : Nat) : Bool := c.toBitVec.getLsbD k
theorem sh_amt : ∀ k : Fin 32, ((eI (k.1 : Int) &&& 31).toBitVec.smod 32).toNat = k.1 := by decide
theorem shr_bv {c : Int32} {k : Nat} (hk : k < 32) : (c >>> (eI k &&& 31)).toBitVec = c.toBitVec.sshiftRight k := by
  have h := sh_amt ⟨k, hk⟩
  rw [Int32.toBitVec_shiftRight]
  show c.toBitVec.sshiftRight ((eI (k : Int) &&& 31).toBitVec.smod 32).toNat = _
  rw [h]
theorem shl_bv {c : Int32} {k : Nat} (hk : k < 32) : (c <<< (eI k &&& 31)).toBitVec = c.toBitVec <<< k := by
  have h := sh_amt ⟨k, hk⟩
  rw [Int32.toBitVec_shiftLeft]
  show c.toBitVec <<< ((eI (k : Int) &&& 31).toBitVec.smod 32).toNat = _
  rw [h]
theorem has_bit {c : Int32} {k : Nat} (hk : k < 32) : ((c >>> (eI k &&& 31)) &&& 1) = 1 ↔ bitN c k = true := by
  unfold bitN
  rw [← Int32.toBitVec_inj, Int32.toBitVec_and, shr_bv hk]
  constructor
  · intro h
    have h2 := congrArg (fun b => b.getLsbD 0) h
    simp [BitVec.getElem_sshiftRight, hk] at h2
    rw [BitVec.getLsbD_eq_getElem hk]
    exact h2
  · intro h
    ext i hi
    by_cases h0 : i = 0
    · subst h0
      rw [BitVec.getLsbD_eq_getElem hk] at h
      simp [BitVec.getElem_sshiftRight, hk]
      exact h
    · simp [h0]
theorem or_bit {c : Int32} {j k : Nat} (hj : j < 32) (hk : k < 32) : bitN (c ||| ((1 : Int32) <<< (eI j &&& 31))) k = (bitN c k || decide (k = j)) := by
  unfold bitN
  rw [Int32.toBitVec_or, shl_bv hj]
  simp
  congr 1
  by_cases h : k = j
  · subst h; simp [hk]
  · by_cases h2 : k < j
    · simp [h, h2]
    · have h3 : ¬ k - j = 0 := by omega
      simp [h, h3]
