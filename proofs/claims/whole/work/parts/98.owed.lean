theorem z_c0 (L0 : Nat) (xs : Nat → Int32) : zStep_c0 zInv L0 xs := by
  sorry
theorem z_c1 (L0 : Nat) (xs : Nat → Int32) : zStep_c1 zInv L0 xs := by
  sorry
theorem z_c2 (L0 : Nat) (xs : Nat → Int32) : zStep_c2 zInv L0 xs := by
  sorry
theorem z_c4 (L0 : Nat) (xs : Nat → Int32) : zStep_c4 zInv L0 xs := by
  sorry
theorem z_c5 (L0 : Nat) (xs : Nat → Int32) : zStep_c5 zInv L0 xs := by
  sorry
theorem z_c6 (L0 : Nat) (xs : Nat → Int32) : zStep_c6 zInv L0 xs := by
  sorry
theorem z_c7 (L0 : Nat) (xs : Nat → Int32) : zStep_c7 zInv L0 xs := by
  sorry
theorem z_c8 (L0 : Nat) (xs : Nat → Int32) : zStep_c8 zInv L0 xs := by
  sorry
theorem z_c9 (L0 : Nat) (xs : Nat → Int32) : zStep_c9 zInv L0 xs := by
  sorry
theorem z_c10 (L0 : Nat) (xs : Nat → Int32) : zStep_c10 zInv L0 xs := by
  sorry
theorem z_c11 (L0 : Nat) (xs : Nat → Int32) : zStep_c11 zInv L0 xs := by
  sorry
theorem z_c12 (L0 : Nat) (xs : Nat → Int32) : zStep_c12 zInv L0 xs := by
  sorry
theorem z_c13 (L0 : Nat) (xs : Nat → Int32) : zStep_c13 zInv L0 xs := by
  sorry
theorem z_c14 (L0 : Nat) (xs : Nat → Int32) : zStep_c14 zInv L0 xs := by
  sorry
theorem z_c3 (L0 : Nat) (xs : Nat → Int32) : zStep_c3 zInv L0 xs := by
  sorry
theorem z_init : zInv (0 : Int32) (0 : Int32) (0 : Int32) (0 : Int32) (0 : Int32) (0 : Int32) ((fun _ => 0) : Nat → Int32) (0 : Int32) ((fun _ => 0) : Nat → Int32) ((fun _ => 0) : Nat → Int64) (0 : Int64) (0 : Int64) (0 : Int64) (0 : Int64) (0 : Int64) (0 : Int64) (0 : Int64) (0 : Int64) (0 : Int64) (0 : Int32) (0 : Int32) ((fun _ => 0) : Nat → Int64) ((fun _ => 0) : Nat → Int64) ((fun _ => 0) : Nat → Int32) (0 : Int32) (0 : Int32) (0 : Int32) (0 : Int32) (0 : Int64) (0 : Int64) (0 : Int64) (0 : Int32) (0 : Int32) ((fun _ => 0) : Nat → Int64) ((fun _ => 0) : Nat → Int64) (0 : Int64) (0 : Int64) (0 : Int64) (0 : Int64) (0 : Int64) (0 : Int64) (0 : Int64) (0 : Int64) (0 : Int32) ((fun _ => 0) : Nat → Int32) (0 : Int32) (0 : Int32) (0 : Int32) (0 : Int32) (0 : Int32) (0 : Int32) (0 : Int32) (0 : Int32) (0 : Int32) (0 : Int32) (0 : Int32) (0 : Int32) (0 : Int32) (0 : Int64) ((fun _ => 0) : Nat → Int32) ((fun _ => 0) : Nat → Int32) ((fun _ => 0) : Nat → Int64) ((fun _ => 0) : Nat → Int64) ((fun _ => 0) : Nat → Int64) ((fun _ => 0) : Nat → Int64) ((fun _ => 0) : Nat → Int32) ((fun _ => 0) : Nat → Int32) ((fun _ => 0) : Nat → Int32) ((fun _ => 0) : Nat → Int64) ((fun _ => 0) : Nat → Int64) ((fun _ => 0) : Nat → Int64) ((fun _ => 0) : Nat → Int32) ((fun _ => 0) : Nat → Int32) ((fun _ => 0) : Nat → Int64) (fun _ => 0) (fun _ => 0) (fun _ _ => 0) (fun _ _ => 0) 8 := by
  sorry
