set_option maxRecDepth 100000
theorem am_sg3 : (((am_c147.drop 12).take 4).zipIdx 12).all (fun q => q.1.all fun r => am_ok (⟨"WordTreeLaw", "law", "([I)Z"⟩, code, 4, some (.boolean)) (16 * q.2 + r.1) r.2) = true := by decide +kernel
theorem am_sg4 : (((am_c147.drop 16).take 4).zipIdx 16).all (fun q => q.1.all fun r => am_ok (⟨"WordTreeLaw", "law", "([I)Z"⟩, code, 4, some (.boolean)) (16 * q.2 + r.1) r.2) = true := by decide +kernel
theorem am_sg5 : (((am_c147.drop 20).take 4).zipIdx 20).all (fun q => q.1.all fun r => am_ok (⟨"WordTreeLaw", "law", "([I)Z"⟩, code, 4, some (.boolean)) (16 * q.2 + r.1) r.2) = true := by decide +kernel
