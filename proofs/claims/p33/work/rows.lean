section
theorem zz_wide_a : True := by
  have _h := @cloneFwd
  trivial
end
