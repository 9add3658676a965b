theorem pw_add {n d e : Int} (d0 : 0 ≤ d) (e0 : 0 ≤ e) : pw n (d + e) = pw n d * pw n e := by
  unfold pw
  rw [show (d + e).toNat = d.toNat + e.toNat by omega, Int.pow_add]
theorem join_B {n d e a b : Int} (n1 : 1 ≤ n) (d0 : 0 ≤ d) (e0 : 0 ≤ e) (a0 : 0 ≤ a) (a1 : a < pw n d) (b0 : 0 ≤ b) (b1 : b < pw n e) : a * pw n e + b < pw n (d + e) := by
  rw [pw_add d0 e0]
  have : (a + 1) * pw n e ≤ pw n d * pw n e := Int.mul_le_mul_of_nonneg_right (by omega) (by omega)
  rw [Int.add_mul, Int.one_mul] at this
  omega
