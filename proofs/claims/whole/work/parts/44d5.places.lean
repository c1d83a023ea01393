theorem txpl_4 : ∀ p ∈ ((txW.zip nIx).drop 24).take 6, (needS p.1.1 p.1.2.1 p.1.2.2.2).map some = p.2.map (fun j => (flatC (Jvm.Cond.and given_1 narrow_1))[j]?) := by decide +kernel
