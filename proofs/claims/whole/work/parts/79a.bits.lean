/-- how many bits, below 64 -/
def bcN (n : Nat) : Nat := ((List.range 6).filter fun i => n.testBit i).length
theorem bitCount_c {h : AH} : ∀ n, n < 64 → J6_bitCount_0f7a4_f (nI n) h = some (nI (bcN n), h) := by
  have e : ∀ n, n < 64 → (fun v1 : Int32 => (fun v2 : Int32 => (fun v3 : Int32 => (fun v4 : Int32 => (fun v5 : Int32 => v5 &&& (nI 63)) (v4 + ((v4.toUInt32 >>> ((nI 16).toUInt32 &&& Int32.toUInt32 31)).toInt32))) (v3 + ((v3.toUInt32 >>> ((nI 8).toUInt32 &&& Int32.toUInt32 31)).toInt32))) ((v2 + ((v2.toUInt32 >>> ((nI 4).toUInt32 &&& Int32.toUInt32 31)).toInt32)) &&& (nI 252645135))) ((v1 &&& (nI 858993459)) + (((v1.toUInt32 >>> ((nI 2).toUInt32 &&& Int32.toUInt32 31)).toInt32) &&& (nI 858993459)))) (nI n - ((((nI n).toUInt32 >>> ((nI 1).toUInt32 &&& Int32.toUInt32 31)).toInt32) &&& (nI 1431655765))) = nI (bcN n) := by decide +kernel
  intro n hn
  unfold J6_bitCount_0f7a4_f
  rw [LT_e, LT_e, LT_e, LT_e, LT_e]
  have := e n hn
  rw [← this]
