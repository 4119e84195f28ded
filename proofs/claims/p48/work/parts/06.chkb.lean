-- a method's own words
def mJm (j : Nat) : Bool := mG1 (mp_init.getD j 0) (.initialized (my j).cls) && plainName (my j).cls && (my j).cls != "java/lang/invoke/MethodHandle" && (my j).cls != "java/lang/invoke/VarHandle"
  && decide ((my j).cls = mR (mown j))
  && (match mkd j with
    | 0 => mG1 (mp_inst.getD j 0) (.static (my j)) && decide ((parseMethodDescriptor (my j).desc).map (fun d => d.parameters.length) = some (mnp j))
    | 1 => mG1 (mp_inst.getD j 0) (.instanceMethod (my j)) && mG1 (mp_sel.getD j 0) (.selects (my j).cls (my j) (my j)) && decide ((parseMethodDescriptor (my j).desc).map (fun d => d.parameters.length + 1) = some (mnp j)) && decide ((my j).cls = mCn (mcl j)) && Nat.blt (mcl j) 12
    | _ => mG1 (mp_inst.getD j 0) (.instanceMethod (my j)) && decide ((my j).name = "<init>") && decide ((parseMethodDescriptor (my j).desc).map (fun d => d.parameters.length + 1) = some (mnp j)) && decide ((my j).cls = mCn (mcl j)) && Nat.blt (mcl j) 12 && Nat.beq (mret j) 0)
theorem mJm_ok : (List.range 341).all (fun j => Nat.beq j 0 || mJm j) = true := by decide +kernel
