section IO0
theorem io {i : Int32} : isN i = 0 ↔ ¬ out i 0 1 = 0 := by
  have e2 : (2 : Int32).toInt = 2 := by decide
  have e1 : (1 : Int32).toInt = 1 := by decide
  have e0 : (0 : Int32).toInt = 0 := by decide
  rw [b01_z, b01_z, i_lt, i_le, i_le, e0, e1, e2]
  omega
end IO0
