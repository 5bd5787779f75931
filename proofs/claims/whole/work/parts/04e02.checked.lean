set_option maxRecDepth 100000
theorem am_sg6 : (((am_c147.drop 24).take 4).zipIdx 24).all (fun q => q.1.all fun r => am_ok (⟨"WordTreeLaw", "law", "([I)Z"⟩, code, 4, some (.boolean)) (16 * q.2 + r.1) r.2) = true := by decide +kernel
theorem am_sg7 : (((am_c147.drop 28).take 4).zipIdx 28).all (fun q => q.1.all fun r => am_ok (⟨"WordTreeLaw", "law", "([I)Z"⟩, code, 4, some (.boolean)) (16 * q.2 + r.1) r.2) = true := by decide +kernel
theorem am_sg8 : (((am_c147.drop 32).take 4).zipIdx 32).all (fun q => q.1.all fun r => am_ok (⟨"WordTreeLaw", "law", "([I)Z"⟩, code, 4, some (.boolean)) (16 * q.2 + r.1) r.2) = true := by decide +kernel
