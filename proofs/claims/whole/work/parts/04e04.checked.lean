set_option maxRecDepth 100000
theorem am_sg12 : (((am_c147.drop 48).take 4).zipIdx 48).all (fun q => q.1.all fun r => am_ok (⟨"WordTreeLaw", "law", "([I)Z"⟩, code, 4, some (.boolean)) (16 * q.2 + r.1) r.2) = true := by decide +kernel
theorem am_sg13 : (((am_c147.drop 52).take 4).zipIdx 52).all (fun q => q.1.all fun r => am_ok (⟨"WordTreeLaw", "law", "([I)Z"⟩, code, 4, some (.boolean)) (16 * q.2 + r.1) r.2) = true := by decide +kernel
