/-! feed, end -/
def bC (x s : Int32) : Int32 := ushr x s &&& 255
def bR (x s : Int32) : Int32 := vp_nar .byte ((x >>> (s &&& 31))).toInt8.toInt32
theorem bRC24 (x : Int32) : bR x 24 &&& 255 = bC x 24 := by
  unfold bR bC ushr
  rw [vp_nar_byte]
  apply Int32.eq_of_toBitVec_eq
  ext i hi
  simp
