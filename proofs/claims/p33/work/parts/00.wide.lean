theorem wide_0 : True := by have _h := @Stand.multianewarray2F; trivial
