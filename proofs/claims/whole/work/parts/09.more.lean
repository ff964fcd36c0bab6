theorem z_ni {x y : Int32} (h : ¬ x = y) : ¬ x.toInt = y.toInt := fun q => h (Int32.toInt_inj.mp q)
theorem z_off2 {k a o b q d : Int} (h1 : ¬ k = a) (h2 : ¬ k = b) : Op.lookupswitch.offset [(a, o), (b, q)] d k = d := by
  rw [Op.lookupswitch.offset_cons, if_neg (fun e => h1 e.symm), Op.lookupswitch.offset_cons, if_neg (fun e => h2 e.symm), Op.lookupswitch.offset_nil]
