set_option maxRecDepth 100000
theorem am_ch135 : am_chk 135 am_c135 = true := by decide +kernel
theorem am_ch136 : am_chk 136 am_c136 = true := by decide +kernel
theorem am_ch137 : am_chk 137 am_c137 = true := by decide +kernel
theorem am_ch138 : am_chk 138 am_c138 = true := by decide +kernel
theorem am_ch139 : am_chk 139 am_c139 = true := by decide +kernel
theorem am_ch140 : am_chk 140 am_c140 = true := by decide +kernel
theorem am_ch141 : am_chk 141 am_c141 = true := by decide +kernel
theorem am_ch142 : am_chk 142 am_c142 = true := by decide +kernel
theorem am_ch143 : am_chk 143 am_c143 = true := by decide +kernel
theorem am_ch144 : am_chk 144 am_c144 = true := by decide +kernel
theorem am_ch145 : am_chk 145 am_c145 = true := by decide +kernel
theorem am_ch146 : am_chk 146 am_c146 = true := by decide +kernel
