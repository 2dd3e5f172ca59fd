theorem zlk_2 {a : Int32} {d o0 o1 : Int} (h0 : a.toInt ≠ (0 : Int32).toInt) (h1 : a.toInt ≠ (1 : Int32).toInt) : Op.lookupswitch.offset (#[((0 : Int), o0), ((1 : Int), o1)] : Array (Int × Int)).toList d a.toInt = d := by
  have e0 : (0 : Int32).toInt = 0 := rfl
  have e1 : (1 : Int32).toInt = 1 := rfl
  rw [e0] at h0
  rw [e1] at h1
  simp [Op.lookupswitch.offset, List.find?, h0, h1, Ne.symm h0, Ne.symm h1]
