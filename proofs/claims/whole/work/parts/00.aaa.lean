/-! a name of the wide library: all parts are compiled over it from the first -/
theorem zz_wide : Bundle.ownAtomsX = Bundle.ownAtomsX := rfl
