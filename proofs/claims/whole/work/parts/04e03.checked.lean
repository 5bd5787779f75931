set_option maxRecDepth 100000
theorem am_sg9 : (((am_c147.drop 36).take 4).zipIdx 36).all (fun q => q.1.all fun r => am_ok (⟨"WordTreeLaw", "law", "([I)Z"⟩, code, 4, some (.boolean)) (16 * q.2 + r.1) r.2) = true := by decide +kernel
theorem am_sg10 : (((am_c147.drop 40).take 4).zipIdx 40).all (fun q => q.1.all fun r => am_ok (⟨"WordTreeLaw", "law", "([I)Z"⟩, code, 4, some (.boolean)) (16 * q.2 + r.1) r.2) = true := by decide +kernel
theorem am_sg11 : (((am_c147.drop 44).take 4).zipIdx 44).all (fun q => q.1.all fun r => am_ok (⟨"WordTreeLaw", "law", "([I)Z"⟩, code, 4, some (.boolean)) (16 * q.2 + r.1) r.2) = true := by decide +kernel
