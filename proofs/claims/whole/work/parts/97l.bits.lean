theorem q_bits1 : ∀ t : Nat, t < 2048 → ∀ k : Nat, k < 11 → ((((Int32.ofNat t >>> (Int32.ofNat k &&& 31)) &&& 1 = 0) ↔ (Int32.ofNat t &&& ((1 : Int32) <<< (Int32.ofNat k &&& 31)) = 0)) ∧ 0 ≤ (Int32.ofNat t ||| ((1 : Int32) <<< (Int32.ofNat k &&& 31))).toInt ∧ (Int32.ofNat t ||| ((1 : Int32) <<< (Int32.ofNat k &&& 31))).toInt < 2048) := by decide +kernel
theorem q_bits {t k : Int32} (ht : 0 ≤ t.toInt ∧ t.toInt < 2048) (hk : 0 ≤ k.toInt ∧ k.toInt < 11) : (((t >>> (k &&& 31)) &&& 1 = 0) ↔ (t &&& (1 <<< (k &&& 31)) = 0)) ∧ 0 ≤ (t ||| (1 <<< (k &&& 31))).toInt ∧ (t ||| (1 <<< (k &&& 31))).toInt < 2048 := by
  have h := q_bits1 t.toInt.toNat (by omega) k.toInt.toNat (by omega)
  rw [← y_ofNat ht.1, ← y_ofNat hk.1] at h
  exact h
