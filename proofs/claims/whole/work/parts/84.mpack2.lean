/-! THE MODEL: letters, packed into a long. -/
section MQ
variable {m0 : xM} {v : Nat → Int32} {dx : Int64} {A : Nat → Nat → Int32} {LA : Nat → Nat → Int64} {s : Nat → Int32}
theorem l_ofN {a : Nat} (h : a < 2 ^ 63) : (Int64.ofNat a).toBitVec.toNat = a := by
  show (BitVec.ofNat 64 a).toNat = a
  rw [BitVec.toNat_ofNat, Nat.mod_eq_of_lt (by omega)]
theorem l_inj {a b : Nat} (ha : a < 2 ^ 63) (hb : b < 2 ^ 63) : Int64.ofNat a = Int64.ofNat b ↔ a = b :=
  ⟨fun h => by
    have : (Int64.ofNat a).toBitVec.toNat = (Int64.ofNat b).toBitVec.toNat := by rw [h]
    rw [l_ofN ha, l_ofN hb] at this
    exact this, fun h => by rw [h]⟩
theorem l_byt : ∀ c : Fin 128, (nI c.1).toInt64 = Int64.ofNat c.1 := by decide +kernel
theorem l_pk {a c : Nat} (ha : a < 2 ^ 48) (hc : c < 128) : (Int64.ofNat a) <<< ((8 : Int32).toInt64 &&& 63) ||| (nI c).toInt64 = Int64.ofNat (a * 256 + c) := by
  rw [l_byt ⟨c, hc⟩]
  apply Int64.toBitVec_inj.mp
  apply BitVec.eq_of_toNat_eq
  rw [l_ofN (by omega)]
  show ((Int64.ofNat a).toBitVec <<< ((((8 : Int32).toInt64 &&& 63).toBitVec.smod 64).toNat) ||| (Int64.ofNat c).toBitVec).toNat = _
  rw [show ((((8 : Int32).toInt64 &&& 63).toBitVec.smod 64).toNat) = 8 by decide, BitVec.toNat_or, BitVec.toNat_shiftLeft, l_ofN (by omega), l_ofN (by omega), Nat.shiftLeft_eq, Nat.mod_eq_of_lt (by omega), Nat.mul_comm, ← Nat.two_pow_add_eq_or_of_lt (by omega)]
end MQ
