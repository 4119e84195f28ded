theorem zz_wide : True := by
  have _h := @Jvm.Bundle.chainSX
  trivial
