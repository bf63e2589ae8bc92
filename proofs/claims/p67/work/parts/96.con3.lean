/-! CONSTRUCTORS: the model -/
/-- the disk at the start -/
def d_ini : s_D := (d_put (d_put (d_add (d_add (d_add (d_add (d_add (d_add (x_rst ((fun _ _ => 0, fun _ => 0) : s_D) 20) 0 7 30) 1 9 42) 2 4 12) 3 12 50) 4 5 12) 5 3 2) 3 5 1) 3 4 2)
def pl_ini : s_Pl := (d_ini, (fun _ _ => 0, fun _ => 0), 0, fun _ => (fun _ _ => 0, fun _ => 0), 0, fun _ => 0, 0, 0, -1, [])
theorem d_ini_ok : d_ok d_ini 6 20 := by
  refine ⟨rfl, by omega, rfl, by omega, fun i hi => ?_⟩
  have h6 : i = 0 ∨ i = 1 ∨ i = 2 ∨ i = 3 ∨ i = 4 ∨ i = 5 := by omega
  rcases h6 with rfl | rfl | rfl | rfl | rfl | rfl
  · exact ⟨⟨7, rfl, by omega, by omega⟩, ⟨30, rfl, by omega⟩, ⟨0, rfl, by omega⟩, ⟨0, rfl, by omega⟩⟩
  · exact ⟨⟨9, rfl, by omega, by omega⟩, ⟨42, rfl, by omega⟩, ⟨0, rfl, by omega⟩, ⟨0, rfl, by omega⟩⟩
  · exact ⟨⟨4, rfl, by omega, by omega⟩, ⟨12, rfl, by omega⟩, ⟨0, rfl, by omega⟩, ⟨0, rfl, by omega⟩⟩
  · exact ⟨⟨12, rfl, by omega, by omega⟩, ⟨50, rfl, by omega⟩, ⟨0, rfl, by omega⟩, ⟨0, rfl, by omega⟩⟩
  · exact ⟨⟨5, rfl, by omega, by omega⟩, ⟨12, rfl, by omega⟩, ⟨0, rfl, by omega⟩, ⟨2, rfl, by omega⟩⟩
  · exact ⟨⟨3, rfl, by omega, by omega⟩, ⟨2, rfl, by omega⟩, ⟨0, rfl, by omega⟩, ⟨1, rfl, by omega⟩⟩
