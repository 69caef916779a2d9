def Inv (_ _ : SS) : Prop := True
theorem Inv_z : Inv σz σz := trivial
theorem steps_ok : StepsOK Inv := sorry
