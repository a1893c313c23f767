/-! names a lemma that only the wide library has, so that the switch to it comes at once -/
theorem aa_wide : True := by
  have _h := @FP.Core.ddiv_out
  trivial
