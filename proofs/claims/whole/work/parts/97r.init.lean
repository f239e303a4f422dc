theorem z_init : zInv (0 : Int32) (0 : Int32) (0 : Int32) (0 : Int32) (0 : Int32) (0 : Int32) ((fun _ => 0) : Nat → Int32) (0 : Int32) ((fun _ => 0) : Nat → Int32) ((fun _ => 0) : Nat → Int64) (0 : Int64) (0 : Int64) (0 : Int64) (0 : Int64) (0 : Int64) (0 : Int64) (0 : Int64) (0 : Int64) (0 : Int64) (0 : Int32) (0 : Int32) ((fun _ => 0) : Nat → Int64) ((fun _ => 0) : Nat → Int64) ((fun _ => 0) : Nat → Int32) (0 : Int32) (0 : Int32) (0 : Int32) (0 : Int32) (0 : Int64) (0 : Int64) (0 : Int64) (0 : Int32) (0 : Int32) ((fun _ => 0) : Nat → Int64) ((fun _ => 0) : Nat → Int64) (0 : Int64) (0 : Int64) (0 : Int64) (0 : Int64) (0 : Int64) (0 : Int64) (0 : Int64) (0 : Int64) (0 : Int32) ((fun _ => 0) : Nat → Int32) (0 : Int32) (0 : Int32) (0 : Int32) (0 : Int32) (0 : Int32) (0 : Int32) (0 : Int32) (0 : Int32) (0 : Int32) (0 : Int32) (0 : Int32) (0 : Int32) (0 : Int32) (0 : Int64) ((fun _ => 0) : Nat → Int32) ((fun _ => 0) : Nat → Int32) ((fun _ => 0) : Nat → Int64) ((fun _ => 0) : Nat → Int64) ((fun _ => 0) : Nat → Int64) ((fun _ => 0) : Nat → Int64) ((fun _ => 0) : Nat → Int32) ((fun _ => 0) : Nat → Int32) ((fun _ => 0) : Nat → Int32) ((fun _ => 0) : Nat → Int64) ((fun _ => 0) : Nat → Int64) ((fun _ => 0) : Nat → Int64) ((fun _ => 0) : Nat → Int32) ((fun _ => 0) : Nat → Int32) ((fun _ => 0) : Nat → Int64) (fun _ => 0) (fun _ => 0) (fun _ _ => 0) (fun _ _ => 0) 8 := by
  have e0 : (0 : Int32).toInt = 0 := by decide
  refine ⟨⟨rfl, by decide, by decide, fun k hk => ?_⟩, ⟨rfl, by decide, by decide, fun f hf => ?_⟩, fun w hw => ?_, fun k hk => ⟨rfl, Or.inl rfl⟩, ⟨?_, fun k h1 h2 => ⟨rfl, Or.inl rfl, fun h => absurd (show (0 : Int32) = 1 from h) (by decide)⟩⟩, ⟨rfl, Or.inl rfl⟩⟩
  · rw [e0] at hk
    omega
  · rw [e0] at hf
    omega
  · have hz : ∀ w : Nat, w < 12 → ¬ yBit 0 w := by unfold yBit; decide
    simp [hz w hw]
  · rw [q_cnt0 80 (fun k _ _ => rfl)]
    rfl
