set_option maxRecDepth 100000
theorem am_sg0 : (((am_c147.drop 0).take 4).zipIdx 0).all (fun q => q.1.all fun r => am_ok (⟨"WordTreeLaw", "law", "([I)Z"⟩, code, 4, some (.boolean)) (16 * q.2 + r.1) r.2) = true := by decide +kernel
theorem am_sg1 : (((am_c147.drop 4).take 4).zipIdx 4).all (fun q => q.1.all fun r => am_ok (⟨"WordTreeLaw", "law", "([I)Z"⟩, code, 4, some (.boolean)) (16 * q.2 + r.1) r.2) = true := by decide +kernel
theorem am_sg2 : (((am_c147.drop 8).take 4).zipIdx 8).all (fun q => q.1.all fun r => am_ok (⟨"WordTreeLaw", "law", "([I)Z"⟩, code, 4, some (.boolean)) (16 * q.2 + r.1) r.2) = true := by decide +kernel
