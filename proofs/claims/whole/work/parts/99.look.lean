set_option maxHeartbeats 4000000 in
theorem zz_good1 : (vx_atS RX4 95 "java/lang/IndexOutOfBoundsException" ["java/lang/RuntimeException", "java/lang/Exception"]).filter (fun w => !goodWord w) = [] := by
  simp [vx_atS, Bundle.ownAtoms, Bundle.throwableAtoms, Bundle.throwableSAtoms, Bundle.chainSAtoms, Bundle.passSAtoms, vx_no, goodWord, Cond.onTables, Cond.keeps, Cond.steady]
