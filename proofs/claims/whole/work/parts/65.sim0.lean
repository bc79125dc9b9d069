/-! the two new heaps answer alike -/
theorem zi_f_at {i : Nat} (h : i < 3) : zi_f i = -1 := by
  rcases (show i = 0 ∨ i = 1 ∨ i = 2 by omega) with rfl | rfl | rfl <;> rfl
theorem zi_ne {k0 k : Nat} (h : k ≠ k0) : (zi_h k0).1 k = fun _ => 0 := if_neg h
theorem zi_eq {k0 : Nat} : (zi_h k0).1 k0 = zi_f := if_pos rfl
theorem sim_0 : Sim (zi_h 22) (zi_h 17) := by
  refine ⟨(0, fun _ => 0, fun _ _ => 0, fun _ => 0, fun _ => 0, fun _ => 0, fun _ => 0, fun _ => 0), ⟨Nat.zero_le _, fun y hy => absurd hy (Nat.not_lt_zero y)⟩, ⟨rfl, fun y hy => absurd hy (Nat.not_lt_zero y)⟩, ⟨rfl, fun y hy => absurd hy (Nat.not_lt_zero y)⟩, ⟨0, by omega, rfl, rfl, fun i hi => by omega⟩, ⟨0, by omega, rfl, rfl, fun i hi => by omega⟩, ⟨0, by omega, rfl, rfl, fun i hi => by omega⟩, ⟨0, by omega, rfl, rfl, fun i hi => by omega⟩, ⟨0, by omega, rfl, rfl, fun i hi => by omega⟩, ?_, fun f _ => rfl, rfl, Or.inl rfl⟩
  rw [zi_eq, zi_eq]
  intro k hk
  rw [zi_f_at hk]
  refine ⟨rfl, ⟨by decide, by decide⟩, fun i hi h => ?_⟩
  exact absurd h (fun w => absurd (Int32.lt_trans w (by decide : (-1 : Int32) < 0)) (nv_lt0 (by omega)))
