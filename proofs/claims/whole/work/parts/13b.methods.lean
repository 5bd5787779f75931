set_option maxRecDepth 100000
theorem am_goodall : lw_tbl.all (fun w => (goodWord w || am_spec w) || !(am_nl w)) = true := by decide +kernel
def am_mok (me : am_ME) : Bool := plainName me.1.cls && (decide (Jvm.Cond.initialized me.1.cls ∈ lw_tbl) && (decide (me.1.cls ≠ "java/lang/invoke/MethodHandle") && (decide (me.1.cls ≠ "java/lang/invoke/VarHandle") && Nat.ble me.2.2.1 20)))
theorem am_mokall : am_MT.zipIdx.all (fun q => !(am_cok q.2) || am_mok q.1) = true := by decide +kernel
theorem am_mok_of {a : Nat} {me : am_ME} (h : am_MT[a]? = some me) (ha : am_cok a = true) : am_mok me = true := by
  have h1 := List.all_eq_true.mp am_mokall (me, a) (List.mem_zipIdx_iff_getElem?.mpr h)
  dsimp only at h1
  rw [ha] at h1
  exact h1
theorem am_nonest : lw_tbl.all (fun w => match w with
  | Jvm.Cond.methodLinkNest _ _ y _ => decide (y.cls ≠ "java/lang/Math")
  | _ => true) = true := by decide +kernel
theorem am_cd0 {me : am_ME} (h : am_MT[0]? = some me) : Jvm.Cond.code me.1 me.2.1 me.2.2.1 me.2.2.2 ∈ lw_tbl := by
  cases h
  exact List.mem_of_getElem? (i := 61) rfl
theorem am_cd1 {me : am_ME} (h : am_MT[1]? = some me) : Jvm.Cond.code me.1 me.2.1 me.2.2.1 me.2.2.2 ∈ lw_tbl := by
  cases h
  exact List.mem_of_getElem? (i := 69) rfl
theorem am_cd2 {me : am_ME} (h : am_MT[2]? = some me) : Jvm.Cond.code me.1 me.2.1 me.2.2.1 me.2.2.2 ∈ lw_tbl := by
  cases h
  exact List.mem_of_getElem? (i := 85) rfl
theorem am_cd3 {me : am_ME} (h : am_MT[3]? = some me) : Jvm.Cond.code me.1 me.2.1 me.2.2.1 me.2.2.2 ∈ lw_tbl := by
  cases h
  exact List.mem_of_getElem? (i := 100) rfl
theorem am_cd4 {me : am_ME} (h : am_MT[4]? = some me) : Jvm.Cond.code me.1 me.2.1 me.2.2.1 me.2.2.2 ∈ lw_tbl := by
  cases h
  exact List.mem_of_getElem? (i := 120) rfl
theorem am_cd5 {me : am_ME} (h : am_MT[5]? = some me) : Jvm.Cond.code me.1 me.2.1 me.2.2.1 me.2.2.2 ∈ lw_tbl := by
  cases h
  exact List.mem_of_getElem? (i := 127) rfl
theorem am_cd6 {me : am_ME} (h : am_MT[6]? = some me) : Jvm.Cond.code me.1 me.2.1 me.2.2.1 me.2.2.2 ∈ lw_tbl := by
  cases h
  exact List.mem_of_getElem? (i := 173) rfl
theorem am_cd7 {me : am_ME} (h : am_MT[7]? = some me) : Jvm.Cond.code me.1 me.2.1 me.2.2.1 me.2.2.2 ∈ lw_tbl := by
  cases h
  exact List.mem_of_getElem? (i := 179) rfl
theorem am_cd8 {me : am_ME} (h : am_MT[8]? = some me) : Jvm.Cond.code me.1 me.2.1 me.2.2.1 me.2.2.2 ∈ lw_tbl := by
  cases h
  exact List.mem_of_getElem? (i := 226) rfl
theorem am_cd9 {me : am_ME} (h : am_MT[9]? = some me) : Jvm.Cond.code me.1 me.2.1 me.2.2.1 me.2.2.2 ∈ lw_tbl := by
  cases h
  exact List.mem_of_getElem? (i := 240) rfl
theorem am_cd10 {me : am_ME} (h : am_MT[10]? = some me) : Jvm.Cond.code me.1 me.2.1 me.2.2.1 me.2.2.2 ∈ lw_tbl := by
  cases h
  exact List.mem_of_getElem? (i := 295) rfl
theorem am_cd11 {me : am_ME} (h : am_MT[11]? = some me) : Jvm.Cond.code me.1 me.2.1 me.2.2.1 me.2.2.2 ∈ lw_tbl := by
  cases h
  exact List.mem_of_getElem? (i := 299) rfl
theorem am_cd12 {me : am_ME} (h : am_MT[12]? = some me) : Jvm.Cond.code me.1 me.2.1 me.2.2.1 me.2.2.2 ∈ lw_tbl := by
  cases h
  exact List.mem_of_getElem? (i := 303) rfl
theorem am_cd13 {me : am_ME} (h : am_MT[13]? = some me) : Jvm.Cond.code me.1 me.2.1 me.2.2.1 me.2.2.2 ∈ lw_tbl := by
  cases h
  exact List.mem_of_getElem? (i := 307) rfl
theorem am_cd14 {me : am_ME} (h : am_MT[14]? = some me) : Jvm.Cond.code me.1 me.2.1 me.2.2.1 me.2.2.2 ∈ lw_tbl := by
  cases h
  exact List.mem_of_getElem? (i := 311) rfl
theorem am_cd15 {me : am_ME} (h : am_MT[15]? = some me) : Jvm.Cond.code me.1 me.2.1 me.2.2.1 me.2.2.2 ∈ lw_tbl := by
  cases h
  exact List.mem_of_getElem? (i := 315) rfl
theorem am_cd16 {me : am_ME} (h : am_MT[16]? = some me) : Jvm.Cond.code me.1 me.2.1 me.2.2.1 me.2.2.2 ∈ lw_tbl := by
  cases h
  exact List.mem_of_getElem? (i := 318) rfl
theorem am_cd17 {me : am_ME} (h : am_MT[17]? = some me) : Jvm.Cond.code me.1 me.2.1 me.2.2.1 me.2.2.2 ∈ lw_tbl := by
  cases h
  exact List.mem_of_getElem? (i := 322) rfl
theorem am_cd18 {me : am_ME} (h : am_MT[18]? = some me) : Jvm.Cond.code me.1 me.2.1 me.2.2.1 me.2.2.2 ∈ lw_tbl := by
  cases h
  exact List.mem_of_getElem? (i := 326) rfl
theorem am_cd19 {me : am_ME} (h : am_MT[19]? = some me) : Jvm.Cond.code me.1 me.2.1 me.2.2.1 me.2.2.2 ∈ lw_tbl := by
  cases h
  exact List.mem_of_getElem? (i := 329) rfl
theorem am_cd20 {me : am_ME} (h : am_MT[20]? = some me) : Jvm.Cond.code me.1 me.2.1 me.2.2.1 me.2.2.2 ∈ lw_tbl := by
  cases h
  exact List.mem_of_getElem? (i := 333) rfl
theorem am_cd21 {me : am_ME} (h : am_MT[21]? = some me) : Jvm.Cond.code me.1 me.2.1 me.2.2.1 me.2.2.2 ∈ lw_tbl := by
  cases h
  exact List.mem_of_getElem? (i := 337) rfl
theorem am_cd22 {me : am_ME} (h : am_MT[22]? = some me) : Jvm.Cond.code me.1 me.2.1 me.2.2.1 me.2.2.2 ∈ lw_tbl := by
  cases h
  exact List.mem_of_getElem? (i := 340) rfl
theorem am_cd23 {me : am_ME} (h : am_MT[23]? = some me) : Jvm.Cond.code me.1 me.2.1 me.2.2.1 me.2.2.2 ∈ lw_tbl := by
  cases h
  exact List.mem_of_getElem? (i := 346) rfl
theorem am_cd24 {me : am_ME} (h : am_MT[24]? = some me) : Jvm.Cond.code me.1 me.2.1 me.2.2.1 me.2.2.2 ∈ lw_tbl := by
  cases h
  exact List.mem_of_getElem? (i := 354) rfl
theorem am_cd25 {me : am_ME} (h : am_MT[25]? = some me) : Jvm.Cond.code me.1 me.2.1 me.2.2.1 me.2.2.2 ∈ lw_tbl := by
  cases h
  exact List.mem_of_getElem? (i := 358) rfl
theorem am_cd26 {me : am_ME} (h : am_MT[26]? = some me) : Jvm.Cond.code me.1 me.2.1 me.2.2.1 me.2.2.2 ∈ lw_tbl := by
  cases h
  exact List.mem_of_getElem? (i := 365) rfl
theorem am_cd27 {me : am_ME} (h : am_MT[27]? = some me) : Jvm.Cond.code me.1 me.2.1 me.2.2.1 me.2.2.2 ∈ lw_tbl := by
  cases h
  exact List.mem_of_getElem? (i := 371) rfl
theorem am_cd28 {me : am_ME} (h : am_MT[28]? = some me) : Jvm.Cond.code me.1 me.2.1 me.2.2.1 me.2.2.2 ∈ lw_tbl := by
  cases h
  exact List.mem_of_getElem? (i := 375) rfl
theorem am_cd29 {me : am_ME} (h : am_MT[29]? = some me) : Jvm.Cond.code me.1 me.2.1 me.2.2.1 me.2.2.2 ∈ lw_tbl := by
  cases h
  exact List.mem_of_getElem? (i := 379) rfl
theorem am_cd30 {me : am_ME} (h : am_MT[30]? = some me) : Jvm.Cond.code me.1 me.2.1 me.2.2.1 me.2.2.2 ∈ lw_tbl := by
  cases h
  exact List.mem_of_getElem? (i := 383) rfl
theorem am_cd31 {me : am_ME} (h : am_MT[31]? = some me) : Jvm.Cond.code me.1 me.2.1 me.2.2.1 me.2.2.2 ∈ lw_tbl := by
  cases h
  exact List.mem_of_getElem? (i := 387) rfl
theorem am_cd32 {me : am_ME} (h : am_MT[32]? = some me) : Jvm.Cond.code me.1 me.2.1 me.2.2.1 me.2.2.2 ∈ lw_tbl := by
  cases h
  exact List.mem_of_getElem? (i := 391) rfl
theorem am_cd33 {me : am_ME} (h : am_MT[33]? = some me) : Jvm.Cond.code me.1 me.2.1 me.2.2.1 me.2.2.2 ∈ lw_tbl := by
  cases h
  exact List.mem_of_getElem? (i := 395) rfl
theorem am_cd34 {me : am_ME} (h : am_MT[34]? = some me) : Jvm.Cond.code me.1 me.2.1 me.2.2.1 me.2.2.2 ∈ lw_tbl := by
  cases h
  exact List.mem_of_getElem? (i := 399) rfl
theorem am_cd35 {me : am_ME} (h : am_MT[35]? = some me) : Jvm.Cond.code me.1 me.2.1 me.2.2.1 me.2.2.2 ∈ lw_tbl := by
  cases h
  exact List.mem_of_getElem? (i := 403) rfl
theorem am_cd36 {me : am_ME} (h : am_MT[36]? = some me) : Jvm.Cond.code me.1 me.2.1 me.2.2.1 me.2.2.2 ∈ lw_tbl := by
  cases h
  exact List.mem_of_getElem? (i := 407) rfl
theorem am_cd37 {me : am_ME} (h : am_MT[37]? = some me) : Jvm.Cond.code me.1 me.2.1 me.2.2.1 me.2.2.2 ∈ lw_tbl := by
  cases h
  exact List.mem_of_getElem? (i := 416) rfl
theorem am_cd38 {me : am_ME} (h : am_MT[38]? = some me) : Jvm.Cond.code me.1 me.2.1 me.2.2.1 me.2.2.2 ∈ lw_tbl := by
  cases h
  exact List.mem_of_getElem? (i := 420) rfl
theorem am_cd39 {me : am_ME} (h : am_MT[39]? = some me) : Jvm.Cond.code me.1 me.2.1 me.2.2.1 me.2.2.2 ∈ lw_tbl := by
  cases h
  exact List.mem_of_getElem? (i := 424) rfl
theorem am_cd40 {me : am_ME} (h : am_MT[40]? = some me) : Jvm.Cond.code me.1 me.2.1 me.2.2.1 me.2.2.2 ∈ lw_tbl := by
  cases h
  exact List.mem_of_getElem? (i := 428) rfl
theorem am_cd41 {me : am_ME} (h : am_MT[41]? = some me) : Jvm.Cond.code me.1 me.2.1 me.2.2.1 me.2.2.2 ∈ lw_tbl := by
  cases h
  exact List.mem_of_getElem? (i := 433) rfl
theorem am_cd42 {me : am_ME} (h : am_MT[42]? = some me) : Jvm.Cond.code me.1 me.2.1 me.2.2.1 me.2.2.2 ∈ lw_tbl := by
  cases h
  exact List.mem_of_getElem? (i := 437) rfl
theorem am_cd43 {me : am_ME} (h : am_MT[43]? = some me) : Jvm.Cond.code me.1 me.2.1 me.2.2.1 me.2.2.2 ∈ lw_tbl := by
  cases h
  exact List.mem_of_getElem? (i := 443) rfl
theorem am_cd44 {me : am_ME} (h : am_MT[44]? = some me) : Jvm.Cond.code me.1 me.2.1 me.2.2.1 me.2.2.2 ∈ lw_tbl := by
  cases h
  exact List.mem_of_getElem? (i := 450) rfl
theorem am_cd45 {me : am_ME} (h : am_MT[45]? = some me) : Jvm.Cond.code me.1 me.2.1 me.2.2.1 me.2.2.2 ∈ lw_tbl := by
  cases h
  exact List.mem_of_getElem? (i := 454) rfl
theorem am_cd46 {me : am_ME} (h : am_MT[46]? = some me) : Jvm.Cond.code me.1 me.2.1 me.2.2.1 me.2.2.2 ∈ lw_tbl := by
  cases h
  exact List.mem_of_getElem? (i := 458) rfl
theorem am_cd47 {me : am_ME} (h : am_MT[47]? = some me) : Jvm.Cond.code me.1 me.2.1 me.2.2.1 me.2.2.2 ∈ lw_tbl := by
  cases h
  exact List.mem_of_getElem? (i := 462) rfl
theorem am_cd48 {me : am_ME} (h : am_MT[48]? = some me) : Jvm.Cond.code me.1 me.2.1 me.2.2.1 me.2.2.2 ∈ lw_tbl := by
  cases h
  exact List.mem_of_getElem? (i := 466) rfl
theorem am_cd49 {me : am_ME} (h : am_MT[49]? = some me) : Jvm.Cond.code me.1 me.2.1 me.2.2.1 me.2.2.2 ∈ lw_tbl := by
  cases h
  exact List.mem_of_getElem? (i := 470) rfl
theorem am_cd50 {me : am_ME} (h : am_MT[50]? = some me) : Jvm.Cond.code me.1 me.2.1 me.2.2.1 me.2.2.2 ∈ lw_tbl := by
  cases h
  exact List.mem_of_getElem? (i := 474) rfl
theorem am_cd51 {me : am_ME} (h : am_MT[51]? = some me) : Jvm.Cond.code me.1 me.2.1 me.2.2.1 me.2.2.2 ∈ lw_tbl := by
  cases h
  exact List.mem_of_getElem? (i := 478) rfl
theorem am_cd52 {me : am_ME} (h : am_MT[52]? = some me) : Jvm.Cond.code me.1 me.2.1 me.2.2.1 me.2.2.2 ∈ lw_tbl := by
  cases h
  exact List.mem_of_getElem? (i := 482) rfl
theorem am_cd53 {me : am_ME} (h : am_MT[53]? = some me) : Jvm.Cond.code me.1 me.2.1 me.2.2.1 me.2.2.2 ∈ lw_tbl := by
  cases h
  exact List.mem_of_getElem? (i := 486) rfl
theorem am_cd54 {me : am_ME} (h : am_MT[54]? = some me) : Jvm.Cond.code me.1 me.2.1 me.2.2.1 me.2.2.2 ∈ lw_tbl := by
  cases h
  exact List.mem_of_getElem? (i := 490) rfl
theorem am_cd55 {me : am_ME} (h : am_MT[55]? = some me) : Jvm.Cond.code me.1 me.2.1 me.2.2.1 me.2.2.2 ∈ lw_tbl := by
  cases h
  exact List.mem_of_getElem? (i := 494) rfl
theorem am_cd56 {me : am_ME} (h : am_MT[56]? = some me) : Jvm.Cond.code me.1 me.2.1 me.2.2.1 me.2.2.2 ∈ lw_tbl := by
  cases h
  exact List.mem_of_getElem? (i := 498) rfl
theorem am_cd57 {me : am_ME} (h : am_MT[57]? = some me) : Jvm.Cond.code me.1 me.2.1 me.2.2.1 me.2.2.2 ∈ lw_tbl := by
  cases h
  exact List.mem_of_getElem? (i := 502) rfl
theorem am_cd58 {me : am_ME} (h : am_MT[58]? = some me) : Jvm.Cond.code me.1 me.2.1 me.2.2.1 me.2.2.2 ∈ lw_tbl := by
  cases h
  exact List.mem_of_getElem? (i := 505) rfl
theorem am_cd59 {me : am_ME} (h : am_MT[59]? = some me) : Jvm.Cond.code me.1 me.2.1 me.2.2.1 me.2.2.2 ∈ lw_tbl := by
  cases h
  exact List.mem_of_getElem? (i := 510) rfl
theorem am_cd60 {me : am_ME} (h : am_MT[60]? = some me) : Jvm.Cond.code me.1 me.2.1 me.2.2.1 me.2.2.2 ∈ lw_tbl := by
  cases h
  exact List.mem_of_getElem? (i := 514) rfl
theorem am_cd61 {me : am_ME} (h : am_MT[61]? = some me) : Jvm.Cond.code me.1 me.2.1 me.2.2.1 me.2.2.2 ∈ lw_tbl := by
  cases h
  exact List.mem_of_getElem? (i := 518) rfl
theorem am_cd62 {me : am_ME} (h : am_MT[62]? = some me) : Jvm.Cond.code me.1 me.2.1 me.2.2.1 me.2.2.2 ∈ lw_tbl := by
  cases h
  exact List.mem_of_getElem? (i := 521) rfl
theorem am_cd63 {me : am_ME} (h : am_MT[63]? = some me) : Jvm.Cond.code me.1 me.2.1 me.2.2.1 me.2.2.2 ∈ lw_tbl := by
  cases h
  exact List.mem_of_getElem? (i := 525) rfl
theorem am_cd64 {me : am_ME} (h : am_MT[64]? = some me) : Jvm.Cond.code me.1 me.2.1 me.2.2.1 me.2.2.2 ∈ lw_tbl := by
  cases h
  exact List.mem_of_getElem? (i := 529) rfl
theorem am_cd65 {me : am_ME} (h : am_MT[65]? = some me) : Jvm.Cond.code me.1 me.2.1 me.2.2.1 me.2.2.2 ∈ lw_tbl := by
  cases h
  exact List.mem_of_getElem? (i := 533) rfl
theorem am_cd66 {me : am_ME} (h : am_MT[66]? = some me) : Jvm.Cond.code me.1 me.2.1 me.2.2.1 me.2.2.2 ∈ lw_tbl := by
  cases h
  exact List.mem_of_getElem? (i := 537) rfl
theorem am_cd67 {me : am_ME} (h : am_MT[67]? = some me) : Jvm.Cond.code me.1 me.2.1 me.2.2.1 me.2.2.2 ∈ lw_tbl := by
  cases h
  exact List.mem_of_getElem? (i := 542) rfl
theorem am_cd68 {me : am_ME} (h : am_MT[68]? = some me) : Jvm.Cond.code me.1 me.2.1 me.2.2.1 me.2.2.2 ∈ lw_tbl := by
  cases h
  exact List.mem_of_getElem? (i := 546) rfl
theorem am_cd69 {me : am_ME} (h : am_MT[69]? = some me) : Jvm.Cond.code me.1 me.2.1 me.2.2.1 me.2.2.2 ∈ lw_tbl := by
  cases h
  exact List.mem_of_getElem? (i := 551) rfl
theorem am_cd70 {me : am_ME} (h : am_MT[70]? = some me) : Jvm.Cond.code me.1 me.2.1 me.2.2.1 me.2.2.2 ∈ lw_tbl := by
  cases h
  exact List.mem_of_getElem? (i := 555) rfl
theorem am_cd71 {me : am_ME} (h : am_MT[71]? = some me) : Jvm.Cond.code me.1 me.2.1 me.2.2.1 me.2.2.2 ∈ lw_tbl := by
  cases h
  exact List.mem_of_getElem? (i := 558) rfl
theorem am_cd72 {me : am_ME} (h : am_MT[72]? = some me) : Jvm.Cond.code me.1 me.2.1 me.2.2.1 me.2.2.2 ∈ lw_tbl := by
  cases h
  exact List.mem_of_getElem? (i := 564) rfl
theorem am_cd73 {me : am_ME} (h : am_MT[73]? = some me) : Jvm.Cond.code me.1 me.2.1 me.2.2.1 me.2.2.2 ∈ lw_tbl := by
  cases h
  exact List.mem_of_getElem? (i := 568) rfl
theorem am_cd74 {me : am_ME} (h : am_MT[74]? = some me) : Jvm.Cond.code me.1 me.2.1 me.2.2.1 me.2.2.2 ∈ lw_tbl := by
  cases h
  exact List.mem_of_getElem? (i := 572) rfl
theorem am_cd75 {me : am_ME} (h : am_MT[75]? = some me) : Jvm.Cond.code me.1 me.2.1 me.2.2.1 me.2.2.2 ∈ lw_tbl := by
  cases h
  exact List.mem_of_getElem? (i := 577) rfl
theorem am_cd76 {me : am_ME} (h : am_MT[76]? = some me) : Jvm.Cond.code me.1 me.2.1 me.2.2.1 me.2.2.2 ∈ lw_tbl := by
  cases h
  exact List.mem_of_getElem? (i := 581) rfl
theorem am_cd77 {me : am_ME} (h : am_MT[77]? = some me) : Jvm.Cond.code me.1 me.2.1 me.2.2.1 me.2.2.2 ∈ lw_tbl := by
  cases h
  exact List.mem_of_getElem? (i := 586) rfl
theorem am_cd78 {me : am_ME} (h : am_MT[78]? = some me) : Jvm.Cond.code me.1 me.2.1 me.2.2.1 me.2.2.2 ∈ lw_tbl := by
  cases h
  exact List.mem_of_getElem? (i := 591) rfl
theorem am_cd79 {me : am_ME} (h : am_MT[79]? = some me) : Jvm.Cond.code me.1 me.2.1 me.2.2.1 me.2.2.2 ∈ lw_tbl := by
  cases h
  exact List.mem_of_getElem? (i := 595) rfl
theorem am_cd80 {me : am_ME} (h : am_MT[80]? = some me) : Jvm.Cond.code me.1 me.2.1 me.2.2.1 me.2.2.2 ∈ lw_tbl := by
  cases h
  exact List.mem_of_getElem? (i := 599) rfl
theorem am_cd81 {me : am_ME} (h : am_MT[81]? = some me) : Jvm.Cond.code me.1 me.2.1 me.2.2.1 me.2.2.2 ∈ lw_tbl := by
  cases h
  exact List.mem_of_getElem? (i := 603) rfl
theorem am_cd82 {me : am_ME} (h : am_MT[82]? = some me) : Jvm.Cond.code me.1 me.2.1 me.2.2.1 me.2.2.2 ∈ lw_tbl := by
  cases h
  exact List.mem_of_getElem? (i := 607) rfl
theorem am_cd83 {me : am_ME} (h : am_MT[83]? = some me) : Jvm.Cond.code me.1 me.2.1 me.2.2.1 me.2.2.2 ∈ lw_tbl := by
  cases h
  exact List.mem_of_getElem? (i := 611) rfl
theorem am_cd84 {me : am_ME} (h : am_MT[84]? = some me) : Jvm.Cond.code me.1 me.2.1 me.2.2.1 me.2.2.2 ∈ lw_tbl := by
  cases h
  exact List.mem_of_getElem? (i := 615) rfl
theorem am_cd85 {me : am_ME} (h : am_MT[85]? = some me) : Jvm.Cond.code me.1 me.2.1 me.2.2.1 me.2.2.2 ∈ lw_tbl := by
  cases h
  exact List.mem_of_getElem? (i := 619) rfl
theorem am_cd86 {me : am_ME} (h : am_MT[86]? = some me) : Jvm.Cond.code me.1 me.2.1 me.2.2.1 me.2.2.2 ∈ lw_tbl := by
  cases h
  exact List.mem_of_getElem? (i := 623) rfl
theorem am_cd87 {me : am_ME} (h : am_MT[87]? = some me) : Jvm.Cond.code me.1 me.2.1 me.2.2.1 me.2.2.2 ∈ lw_tbl := by
  cases h
  exact List.mem_of_getElem? (i := 630) rfl
theorem am_cd89 {me : am_ME} (h : am_MT[89]? = some me) : Jvm.Cond.code me.1 me.2.1 me.2.2.1 me.2.2.2 ∈ lw_tbl := by
  cases h
  exact List.mem_of_getElem? (i := 638) rfl
theorem am_cd90 {me : am_ME} (h : am_MT[90]? = some me) : Jvm.Cond.code me.1 me.2.1 me.2.2.1 me.2.2.2 ∈ lw_tbl := by
  cases h
  exact List.mem_of_getElem? (i := 643) rfl
theorem am_cd91 {me : am_ME} (h : am_MT[91]? = some me) : Jvm.Cond.code me.1 me.2.1 me.2.2.1 me.2.2.2 ∈ lw_tbl := by
  cases h
  exact List.mem_of_getElem? (i := 648) rfl
theorem am_cd92 {me : am_ME} (h : am_MT[92]? = some me) : Jvm.Cond.code me.1 me.2.1 me.2.2.1 me.2.2.2 ∈ lw_tbl := by
  cases h
  exact List.mem_of_getElem? (i := 652) rfl
theorem am_cd93 {me : am_ME} (h : am_MT[93]? = some me) : Jvm.Cond.code me.1 me.2.1 me.2.2.1 me.2.2.2 ∈ lw_tbl := by
  cases h
  exact List.mem_of_getElem? (i := 656) rfl
theorem am_cd94 {me : am_ME} (h : am_MT[94]? = some me) : Jvm.Cond.code me.1 me.2.1 me.2.2.1 me.2.2.2 ∈ lw_tbl := by
  cases h
  exact List.mem_of_getElem? (i := 660) rfl
theorem am_cd95 {me : am_ME} (h : am_MT[95]? = some me) : Jvm.Cond.code me.1 me.2.1 me.2.2.1 me.2.2.2 ∈ lw_tbl := by
  cases h
  exact List.mem_of_getElem? (i := 664) rfl
theorem am_cd96 {me : am_ME} (h : am_MT[96]? = some me) : Jvm.Cond.code me.1 me.2.1 me.2.2.1 me.2.2.2 ∈ lw_tbl := by
  cases h
  exact List.mem_of_getElem? (i := 669) rfl
theorem am_cd97 {me : am_ME} (h : am_MT[97]? = some me) : Jvm.Cond.code me.1 me.2.1 me.2.2.1 me.2.2.2 ∈ lw_tbl := by
  cases h
  exact List.mem_of_getElem? (i := 673) rfl
theorem am_cd98 {me : am_ME} (h : am_MT[98]? = some me) : Jvm.Cond.code me.1 me.2.1 me.2.2.1 me.2.2.2 ∈ lw_tbl := by
  cases h
  exact List.mem_of_getElem? (i := 678) rfl
theorem am_cd99 {me : am_ME} (h : am_MT[99]? = some me) : Jvm.Cond.code me.1 me.2.1 me.2.2.1 me.2.2.2 ∈ lw_tbl := by
  cases h
  exact List.mem_of_getElem? (i := 787) rfl
theorem am_cd100 {me : am_ME} (h : am_MT[100]? = some me) : Jvm.Cond.code me.1 me.2.1 me.2.2.1 me.2.2.2 ∈ lw_tbl := by
  cases h
  exact List.mem_of_getElem? (i := 791) rfl
theorem am_cd101 {me : am_ME} (h : am_MT[101]? = some me) : Jvm.Cond.code me.1 me.2.1 me.2.2.1 me.2.2.2 ∈ lw_tbl := by
  cases h
  exact List.mem_of_getElem? (i := 795) rfl
theorem am_cd102 {me : am_ME} (h : am_MT[102]? = some me) : Jvm.Cond.code me.1 me.2.1 me.2.2.1 me.2.2.2 ∈ lw_tbl := by
  cases h
  exact List.mem_of_getElem? (i := 798) rfl
theorem am_cd103 {me : am_ME} (h : am_MT[103]? = some me) : Jvm.Cond.code me.1 me.2.1 me.2.2.1 me.2.2.2 ∈ lw_tbl := by
  cases h
  exact List.mem_of_getElem? (i := 802) rfl
theorem am_cd104 {me : am_ME} (h : am_MT[104]? = some me) : Jvm.Cond.code me.1 me.2.1 me.2.2.1 me.2.2.2 ∈ lw_tbl := by
  cases h
  exact List.mem_of_getElem? (i := 806) rfl
theorem am_cd105 {me : am_ME} (h : am_MT[105]? = some me) : Jvm.Cond.code me.1 me.2.1 me.2.2.1 me.2.2.2 ∈ lw_tbl := by
  cases h
  exact List.mem_of_getElem? (i := 809) rfl
theorem am_cd106 {me : am_ME} (h : am_MT[106]? = some me) : Jvm.Cond.code me.1 me.2.1 me.2.2.1 me.2.2.2 ∈ lw_tbl := by
  cases h
  exact List.mem_of_getElem? (i := 823) rfl
theorem am_cd107 {me : am_ME} (h : am_MT[107]? = some me) : Jvm.Cond.code me.1 me.2.1 me.2.2.1 me.2.2.2 ∈ lw_tbl := by
  cases h
  exact List.mem_of_getElem? (i := 827) rfl
theorem am_cd108 {me : am_ME} (h : am_MT[108]? = some me) : Jvm.Cond.code me.1 me.2.1 me.2.2.1 me.2.2.2 ∈ lw_tbl := by
  cases h
  exact List.mem_of_getElem? (i := 831) rfl
theorem am_cd109 {me : am_ME} (h : am_MT[109]? = some me) : Jvm.Cond.code me.1 me.2.1 me.2.2.1 me.2.2.2 ∈ lw_tbl := by
  cases h
  exact List.mem_of_getElem? (i := 835) rfl
theorem am_cd110 {me : am_ME} (h : am_MT[110]? = some me) : Jvm.Cond.code me.1 me.2.1 me.2.2.1 me.2.2.2 ∈ lw_tbl := by
  cases h
  exact List.mem_of_getElem? (i := 839) rfl
theorem am_cd111 {me : am_ME} (h : am_MT[111]? = some me) : Jvm.Cond.code me.1 me.2.1 me.2.2.1 me.2.2.2 ∈ lw_tbl := by
  cases h
  exact List.mem_of_getElem? (i := 843) rfl
theorem am_cd112 {me : am_ME} (h : am_MT[112]? = some me) : Jvm.Cond.code me.1 me.2.1 me.2.2.1 me.2.2.2 ∈ lw_tbl := by
  cases h
  exact List.mem_of_getElem? (i := 847) rfl
theorem am_cd113 {me : am_ME} (h : am_MT[113]? = some me) : Jvm.Cond.code me.1 me.2.1 me.2.2.1 me.2.2.2 ∈ lw_tbl := by
  cases h
  exact List.mem_of_getElem? (i := 851) rfl
theorem am_cd114 {me : am_ME} (h : am_MT[114]? = some me) : Jvm.Cond.code me.1 me.2.1 me.2.2.1 me.2.2.2 ∈ lw_tbl := by
  cases h
  exact List.mem_of_getElem? (i := 855) rfl
theorem am_cd115 {me : am_ME} (h : am_MT[115]? = some me) : Jvm.Cond.code me.1 me.2.1 me.2.2.1 me.2.2.2 ∈ lw_tbl := by
  cases h
  exact List.mem_of_getElem? (i := 860) rfl
theorem am_cd116 {me : am_ME} (h : am_MT[116]? = some me) : Jvm.Cond.code me.1 me.2.1 me.2.2.1 me.2.2.2 ∈ lw_tbl := by
  cases h
  exact List.mem_of_getElem? (i := 864) rfl
theorem am_cd117 {me : am_ME} (h : am_MT[117]? = some me) : Jvm.Cond.code me.1 me.2.1 me.2.2.1 me.2.2.2 ∈ lw_tbl := by
  cases h
  exact List.mem_of_getElem? (i := 868) rfl
theorem am_cd118 {me : am_ME} (h : am_MT[118]? = some me) : Jvm.Cond.code me.1 me.2.1 me.2.2.1 me.2.2.2 ∈ lw_tbl := by
  cases h
  exact List.mem_of_getElem? (i := 872) rfl
theorem am_cd119 {me : am_ME} (h : am_MT[119]? = some me) : Jvm.Cond.code me.1 me.2.1 me.2.2.1 me.2.2.2 ∈ lw_tbl := by
  cases h
  exact List.mem_of_getElem? (i := 876) rfl
theorem am_cd120 {me : am_ME} (h : am_MT[120]? = some me) : Jvm.Cond.code me.1 me.2.1 me.2.2.1 me.2.2.2 ∈ lw_tbl := by
  cases h
  exact List.mem_of_getElem? (i := 879) rfl
theorem am_cd121 {me : am_ME} (h : am_MT[121]? = some me) : Jvm.Cond.code me.1 me.2.1 me.2.2.1 me.2.2.2 ∈ lw_tbl := by
  cases h
  exact List.mem_of_getElem? (i := 883) rfl
theorem am_cd122 {me : am_ME} (h : am_MT[122]? = some me) : Jvm.Cond.code me.1 me.2.1 me.2.2.1 me.2.2.2 ∈ lw_tbl := by
  cases h
  exact List.mem_of_getElem? (i := 887) rfl
theorem am_cd123 {me : am_ME} (h : am_MT[123]? = some me) : Jvm.Cond.code me.1 me.2.1 me.2.2.1 me.2.2.2 ∈ lw_tbl := by
  cases h
  exact List.mem_of_getElem? (i := 891) rfl
theorem am_cd124 {me : am_ME} (h : am_MT[124]? = some me) : Jvm.Cond.code me.1 me.2.1 me.2.2.1 me.2.2.2 ∈ lw_tbl := by
  cases h
  exact List.mem_of_getElem? (i := 895) rfl
theorem am_cd125 {me : am_ME} (h : am_MT[125]? = some me) : Jvm.Cond.code me.1 me.2.1 me.2.2.1 me.2.2.2 ∈ lw_tbl := by
  cases h
  exact List.mem_of_getElem? (i := 899) rfl
theorem am_cd126 {me : am_ME} (h : am_MT[126]? = some me) : Jvm.Cond.code me.1 me.2.1 me.2.2.1 me.2.2.2 ∈ lw_tbl := by
  cases h
  exact List.mem_of_getElem? (i := 903) rfl
theorem am_cd127 {me : am_ME} (h : am_MT[127]? = some me) : Jvm.Cond.code me.1 me.2.1 me.2.2.1 me.2.2.2 ∈ lw_tbl := by
  cases h
  exact List.mem_of_getElem? (i := 907) rfl
theorem am_cd128 {me : am_ME} (h : am_MT[128]? = some me) : Jvm.Cond.code me.1 me.2.1 me.2.2.1 me.2.2.2 ∈ lw_tbl := by
  cases h
  exact List.mem_of_getElem? (i := 911) rfl
theorem am_cd129 {me : am_ME} (h : am_MT[129]? = some me) : Jvm.Cond.code me.1 me.2.1 me.2.2.1 me.2.2.2 ∈ lw_tbl := by
  cases h
  exact List.mem_of_getElem? (i := 915) rfl
theorem am_cd130 {me : am_ME} (h : am_MT[130]? = some me) : Jvm.Cond.code me.1 me.2.1 me.2.2.1 me.2.2.2 ∈ lw_tbl := by
  cases h
  exact List.mem_of_getElem? (i := 919) rfl
theorem am_cd131 {me : am_ME} (h : am_MT[131]? = some me) : Jvm.Cond.code me.1 me.2.1 me.2.2.1 me.2.2.2 ∈ lw_tbl := by
  cases h
  exact List.mem_of_getElem? (i := 922) rfl
theorem am_cd132 {me : am_ME} (h : am_MT[132]? = some me) : Jvm.Cond.code me.1 me.2.1 me.2.2.1 me.2.2.2 ∈ lw_tbl := by
  cases h
  exact List.mem_of_getElem? (i := 926) rfl
theorem am_cd133 {me : am_ME} (h : am_MT[133]? = some me) : Jvm.Cond.code me.1 me.2.1 me.2.2.1 me.2.2.2 ∈ lw_tbl := by
  cases h
  exact List.mem_of_getElem? (i := 930) rfl
theorem am_cd134 {me : am_ME} (h : am_MT[134]? = some me) : Jvm.Cond.code me.1 me.2.1 me.2.2.1 me.2.2.2 ∈ lw_tbl := by
  cases h
  exact List.mem_of_getElem? (i := 934) rfl
theorem am_cd135 {me : am_ME} (h : am_MT[135]? = some me) : Jvm.Cond.code me.1 me.2.1 me.2.2.1 me.2.2.2 ∈ lw_tbl := by
  cases h
  exact List.mem_of_getElem? (i := 938) rfl
theorem am_cd136 {me : am_ME} (h : am_MT[136]? = some me) : Jvm.Cond.code me.1 me.2.1 me.2.2.1 me.2.2.2 ∈ lw_tbl := by
  cases h
  exact List.mem_of_getElem? (i := 942) rfl
theorem am_cd137 {me : am_ME} (h : am_MT[137]? = some me) : Jvm.Cond.code me.1 me.2.1 me.2.2.1 me.2.2.2 ∈ lw_tbl := by
  cases h
  exact List.mem_of_getElem? (i := 946) rfl
theorem am_cd138 {me : am_ME} (h : am_MT[138]? = some me) : Jvm.Cond.code me.1 me.2.1 me.2.2.1 me.2.2.2 ∈ lw_tbl := by
  cases h
  exact List.mem_of_getElem? (i := 950) rfl
theorem am_cd140 {me : am_ME} (h : am_MT[140]? = some me) : Jvm.Cond.code me.1 me.2.1 me.2.2.1 me.2.2.2 ∈ lw_tbl := by
  cases h
  exact List.mem_of_getElem? (i := 957) rfl
theorem am_cd141 {me : am_ME} (h : am_MT[141]? = some me) : Jvm.Cond.code me.1 me.2.1 me.2.2.1 me.2.2.2 ∈ lw_tbl := by
  cases h
  exact List.mem_of_getElem? (i := 961) rfl
theorem am_cd142 {me : am_ME} (h : am_MT[142]? = some me) : Jvm.Cond.code me.1 me.2.1 me.2.2.1 me.2.2.2 ∈ lw_tbl := by
  cases h
  exact List.mem_of_getElem? (i := 965) rfl
theorem am_cd143 {me : am_ME} (h : am_MT[143]? = some me) : Jvm.Cond.code me.1 me.2.1 me.2.2.1 me.2.2.2 ∈ lw_tbl := by
  cases h
  exact List.mem_of_getElem? (i := 969) rfl
theorem am_cd144 {me : am_ME} (h : am_MT[144]? = some me) : Jvm.Cond.code me.1 me.2.1 me.2.2.1 me.2.2.2 ∈ lw_tbl := by
  cases h
  exact List.mem_of_getElem? (i := 973) rfl
theorem am_cd145 {me : am_ME} (h : am_MT[145]? = some me) : Jvm.Cond.code me.1 me.2.1 me.2.2.1 me.2.2.2 ∈ lw_tbl := by
  cases h
  exact List.mem_of_getElem? (i := 977) rfl
theorem am_cd146 {me : am_ME} (h : am_MT[146]? = some me) : Jvm.Cond.code me.1 me.2.1 me.2.2.1 me.2.2.2 ∈ lw_tbl := by
  cases h
  exact List.mem_of_getElem? (i := 981) rfl
theorem am_cdall : ∀ (a : Nat) {me : am_ME}, am_MT[a]? = some me → am_cok a = true → Jvm.Cond.code me.1 me.2.1 me.2.2.1 me.2.2.2 ∈ lw_tbl := by
  intro a me h ha
  match a, h, ha with
  | 0, h, _ => exact am_cd0 h
  | 1, h, _ => exact am_cd1 h
  | 2, h, _ => exact am_cd2 h
  | 3, h, _ => exact am_cd3 h
  | 4, h, _ => exact am_cd4 h
  | 5, h, _ => exact am_cd5 h
  | 6, h, _ => exact am_cd6 h
  | 7, h, _ => exact am_cd7 h
  | 8, h, _ => exact am_cd8 h
  | 9, h, _ => exact am_cd9 h
  | 10, h, _ => exact am_cd10 h
  | 11, h, _ => exact am_cd11 h
  | 12, h, _ => exact am_cd12 h
  | 13, h, _ => exact am_cd13 h
  | 14, h, _ => exact am_cd14 h
  | 15, h, _ => exact am_cd15 h
  | 16, h, _ => exact am_cd16 h
  | 17, h, _ => exact am_cd17 h
  | 18, h, _ => exact am_cd18 h
  | 19, h, _ => exact am_cd19 h
  | 20, h, _ => exact am_cd20 h
  | 21, h, _ => exact am_cd21 h
  | 22, h, _ => exact am_cd22 h
  | 23, h, _ => exact am_cd23 h
  | 24, h, _ => exact am_cd24 h
  | 25, h, _ => exact am_cd25 h
  | 26, h, _ => exact am_cd26 h
  | 27, h, _ => exact am_cd27 h
  | 28, h, _ => exact am_cd28 h
  | 29, h, _ => exact am_cd29 h
  | 30, h, _ => exact am_cd30 h
  | 31, h, _ => exact am_cd31 h
  | 32, h, _ => exact am_cd32 h
  | 33, h, _ => exact am_cd33 h
  | 34, h, _ => exact am_cd34 h
  | 35, h, _ => exact am_cd35 h
  | 36, h, _ => exact am_cd36 h
  | 37, h, _ => exact am_cd37 h
  | 38, h, _ => exact am_cd38 h
  | 39, h, _ => exact am_cd39 h
  | 40, h, _ => exact am_cd40 h
  | 41, h, _ => exact am_cd41 h
  | 42, h, _ => exact am_cd42 h
  | 43, h, _ => exact am_cd43 h
  | 44, h, _ => exact am_cd44 h
  | 45, h, _ => exact am_cd45 h
  | 46, h, _ => exact am_cd46 h
  | 47, h, _ => exact am_cd47 h
  | 48, h, _ => exact am_cd48 h
  | 49, h, _ => exact am_cd49 h
  | 50, h, _ => exact am_cd50 h
  | 51, h, _ => exact am_cd51 h
  | 52, h, _ => exact am_cd52 h
  | 53, h, _ => exact am_cd53 h
  | 54, h, _ => exact am_cd54 h
  | 55, h, _ => exact am_cd55 h
  | 56, h, _ => exact am_cd56 h
  | 57, h, _ => exact am_cd57 h
  | 58, h, _ => exact am_cd58 h
  | 59, h, _ => exact am_cd59 h
  | 60, h, _ => exact am_cd60 h
  | 61, h, _ => exact am_cd61 h
  | 62, h, _ => exact am_cd62 h
  | 63, h, _ => exact am_cd63 h
  | 64, h, _ => exact am_cd64 h
  | 65, h, _ => exact am_cd65 h
  | 66, h, _ => exact am_cd66 h
  | 67, h, _ => exact am_cd67 h
  | 68, h, _ => exact am_cd68 h
  | 69, h, _ => exact am_cd69 h
  | 70, h, _ => exact am_cd70 h
  | 71, h, _ => exact am_cd71 h
  | 72, h, _ => exact am_cd72 h
  | 73, h, _ => exact am_cd73 h
  | 74, h, _ => exact am_cd74 h
  | 75, h, _ => exact am_cd75 h
  | 76, h, _ => exact am_cd76 h
  | 77, h, _ => exact am_cd77 h
  | 78, h, _ => exact am_cd78 h
  | 79, h, _ => exact am_cd79 h
  | 80, h, _ => exact am_cd80 h
  | 81, h, _ => exact am_cd81 h
  | 82, h, _ => exact am_cd82 h
  | 83, h, _ => exact am_cd83 h
  | 84, h, _ => exact am_cd84 h
  | 85, h, _ => exact am_cd85 h
  | 86, h, _ => exact am_cd86 h
  | 87, h, _ => exact am_cd87 h
  | 88, _, ha => exact absurd ha (by decide)
  | 89, h, _ => exact am_cd89 h
  | 90, h, _ => exact am_cd90 h
  | 91, h, _ => exact am_cd91 h
  | 92, h, _ => exact am_cd92 h
  | 93, h, _ => exact am_cd93 h
  | 94, h, _ => exact am_cd94 h
  | 95, h, _ => exact am_cd95 h
  | 96, h, _ => exact am_cd96 h
  | 97, h, _ => exact am_cd97 h
  | 98, h, _ => exact am_cd98 h
  | 99, h, _ => exact am_cd99 h
  | 100, h, _ => exact am_cd100 h
  | 101, h, _ => exact am_cd101 h
  | 102, h, _ => exact am_cd102 h
  | 103, h, _ => exact am_cd103 h
  | 104, h, _ => exact am_cd104 h
  | 105, h, _ => exact am_cd105 h
  | 106, h, _ => exact am_cd106 h
  | 107, h, _ => exact am_cd107 h
  | 108, h, _ => exact am_cd108 h
  | 109, h, _ => exact am_cd109 h
  | 110, h, _ => exact am_cd110 h
  | 111, h, _ => exact am_cd111 h
  | 112, h, _ => exact am_cd112 h
  | 113, h, _ => exact am_cd113 h
  | 114, h, _ => exact am_cd114 h
  | 115, h, _ => exact am_cd115 h
  | 116, h, _ => exact am_cd116 h
  | 117, h, _ => exact am_cd117 h
  | 118, h, _ => exact am_cd118 h
  | 119, h, _ => exact am_cd119 h
  | 120, h, _ => exact am_cd120 h
  | 121, h, _ => exact am_cd121 h
  | 122, h, _ => exact am_cd122 h
  | 123, h, _ => exact am_cd123 h
  | 124, h, _ => exact am_cd124 h
  | 125, h, _ => exact am_cd125 h
  | 126, h, _ => exact am_cd126 h
  | 127, h, _ => exact am_cd127 h
  | 128, h, _ => exact am_cd128 h
  | 129, h, _ => exact am_cd129 h
  | 130, h, _ => exact am_cd130 h
  | 131, h, _ => exact am_cd131 h
  | 132, h, _ => exact am_cd132 h
  | 133, h, _ => exact am_cd133 h
  | 134, h, _ => exact am_cd134 h
  | 135, h, _ => exact am_cd135 h
  | 136, h, _ => exact am_cd136 h
  | 137, h, _ => exact am_cd137 h
  | 138, h, _ => exact am_cd138 h
  | 139, _, ha => exact absurd ha (by decide)
  | 140, h, _ => exact am_cd140 h
  | 141, h, _ => exact am_cd141 h
  | 142, h, _ => exact am_cd142 h
  | 143, h, _ => exact am_cd143 h
  | 144, h, _ => exact am_cd144 h
  | 145, h, _ => exact am_cd145 h
  | 146, h, _ => exact am_cd146 h
  | a + 147, _, ha =>
    have := Nat.le_of_ble_eq_true (Bool.and_eq_true_iff.mp ha).1
    exact absurd this (by omega)
