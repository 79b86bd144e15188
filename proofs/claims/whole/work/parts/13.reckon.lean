/-! the document's functions of an angle, in its own order of operations -/
def radF (a : UInt64) : UInt64 := FP.ddiv (FP.dmul a 4614256656552045848) 4670677016280825856
def polF (a b c : UInt64) (q : UInt64) : UInt64 := FP.dadd FP.dconst1 (FP.dmul q (FP.dadd a (FP.dmul q (FP.dadd b (FP.dmul q c)))))
def slopeF (a : UInt64) : UInt64 := FP.dmul (radF a) (polF 4599676419421066581 4593971859893063953 4587938466106554908 (FP.dmul (radF a) (radF a)))
def sineF (a : UInt64) : UInt64 := FP.dmul (radF a) (polF 13818544856648471893 4575957461383581969 13774824197408792602 (FP.dmul (radF a) (radF a)))
def cosF (a : UInt64) : UInt64 := polF 13826050856027422720 4586165620538955093 13787419979223755799 (FP.dmul (radF a) (radF a))
theorem fc_dconst0 : fIv 0 0 FP.dconst0 := by unfold fIv; decide +kernel
theorem fc_dconst1 : fIv 65536 65536 FP.dconst1 := by unfold fIv; decide +kernel
theorem fMid : ∀ w, w < 25 → fIv (-32768) 753664 (midF w) := by unfold fIv midF; decide +kernel
theorem fc_13774824197408792602 : fIv (-14) (-13) 13774824197408792602 := by unfold fIv; decide +kernel
theorem fc_13787419979223755799 : fIv (-92) (-91) 13787419979223755799 := by unfold fIv; decide +kernel
theorem fc_13818544856648471893 : fIv (-10923) (-10922) 13818544856648471893 := by unfold fIv; decide +kernel
theorem fc_13826050856027422720 : fIv (-32768) (-32768) 13826050856027422720 := by unfold fIv; decide +kernel
theorem fc_4575957461383581969 : fIv (546) (547) 4575957461383581969 := by unfold fIv; decide +kernel
theorem fc_4586165620538955093 : fIv (2730) (2731) 4586165620538955093 := by unfold fIv; decide +kernel
theorem fc_4587938466106554908 : fIv (3536) (3537) 4587938466106554908 := by unfold fIv; decide +kernel
theorem fc_4593971859893063953 : fIv (8738) (8739) 4593971859893063953 := by unfold fIv; decide +kernel
theorem fc_4599676419421066581 : fIv (21845) (21846) 4599676419421066581 := by unfold fIv; decide +kernel
theorem fc_4614256656552045848 : fIv (205887) (205888) 4614256656552045848 := by unfold fIv; decide +kernel
theorem fc_4670677016280825856 : fIv (1179648000) (1179648000) 4670677016280825856 := by unfold fIv; decide +kernel
theorem fRad {a : UInt64} (ha : fIv (-131072000) 131072000 a) : fIv (-22877) (22877) (radF a) := by
  have h1 : fIv (-411776000) (411776000) (FP.dmul a 4614256656552045848) := fIv.mul (n := 131072000) (m := 205888) (k := 411776000) ha (fc_4614256656552045848.weak (by decide +kernel) (by decide +kernel) (by decide +kernel) (by decide +kernel)) (by decide +kernel) (by decide +kernel)
  have h2 : fIv (-22877) (22877) (FP.ddiv (FP.dmul a 4614256656552045848) 4670677016280825856) := fIv.div (n := 411776000) (L := 1179648000) (k := 22877) h1 fc_4670677016280825856 (by decide +kernel) (by decide +kernel) (by decide +kernel)
  exact h2
theorem fSlope {a : UInt64} (ha : fIv (-131072000) 131072000 a) : fIv (-23855) (23855) (slopeF a) := by
  have h1 : fIv (-411776000) (411776000) (FP.dmul a 4614256656552045848) := fIv.mul (n := 131072000) (m := 205888) (k := 411776000) ha (fc_4614256656552045848.weak (by decide +kernel) (by decide +kernel) (by decide +kernel) (by decide +kernel)) (by decide +kernel) (by decide +kernel)
  have h2 : fIv (-22877) (22877) (FP.ddiv (FP.dmul a 4614256656552045848) 4670677016280825856) := fIv.div (n := 411776000) (L := 1179648000) (k := 22877) h1 fc_4670677016280825856 (by decide +kernel) (by decide +kernel) (by decide +kernel)
  have h3 : fIv (-7986) (7986) (FP.dmul (FP.ddiv (FP.dmul a 4614256656552045848) 4670677016280825856) (FP.ddiv (FP.dmul a 4614256656552045848) 4670677016280825856)) := fIv.mul (n := 22877) (m := 22877) (k := 7986) h2 h2 (by decide +kernel) (by decide +kernel)
  have h4 : fIv (-432) (432) (FP.dmul (FP.dmul (FP.ddiv (FP.dmul a 4614256656552045848) 4670677016280825856) (FP.ddiv (FP.dmul a 4614256656552045848) 4670677016280825856)) 4587938466106554908) := fIv.mul (n := 7986) (m := 3537) (k := 432) h3 (fc_4587938466106554908.weak (by decide +kernel) (by decide +kernel) (by decide +kernel) (by decide +kernel)) (by decide +kernel) (by decide +kernel)
  have h5 : fIv (8306) (9171) (FP.dadd 4593971859893063953 (FP.dmul (FP.dmul (FP.ddiv (FP.dmul a 4614256656552045848) 4670677016280825856) (FP.ddiv (FP.dmul a 4614256656552045848) 4670677016280825856)) 4587938466106554908)) := fAdd fc_4593971859893063953 h4 (by decide +kernel) (by decide +kernel) (by decide +kernel) (by decide +kernel)
  have h6 : fIv (-1118) (1118) (FP.dmul (FP.dmul (FP.ddiv (FP.dmul a 4614256656552045848) 4670677016280825856) (FP.ddiv (FP.dmul a 4614256656552045848) 4670677016280825856)) (FP.dadd 4593971859893063953 (FP.dmul (FP.dmul (FP.ddiv (FP.dmul a 4614256656552045848) 4670677016280825856) (FP.ddiv (FP.dmul a 4614256656552045848) 4670677016280825856)) 4587938466106554908))) := fIv.mul (n := 7986) (m := 9171) (k := 1118) h3 (h5.weak (by decide +kernel) (by decide +kernel) (by decide +kernel) (by decide +kernel)) (by decide +kernel) (by decide +kernel)
  have h7 : fIv (20727) (22964) (FP.dadd 4599676419421066581 (FP.dmul (FP.dmul (FP.ddiv (FP.dmul a 4614256656552045848) 4670677016280825856) (FP.ddiv (FP.dmul a 4614256656552045848) 4670677016280825856)) (FP.dadd 4593971859893063953 (FP.dmul (FP.dmul (FP.ddiv (FP.dmul a 4614256656552045848) 4670677016280825856) (FP.ddiv (FP.dmul a 4614256656552045848) 4670677016280825856)) 4587938466106554908)))) := fAdd fc_4599676419421066581 h6 (by decide +kernel) (by decide +kernel) (by decide +kernel) (by decide +kernel)
  have h8 : fIv (-2799) (2799) (FP.dmul (FP.dmul (FP.ddiv (FP.dmul a 4614256656552045848) 4670677016280825856) (FP.ddiv (FP.dmul a 4614256656552045848) 4670677016280825856)) (FP.dadd 4599676419421066581 (FP.dmul (FP.dmul (FP.ddiv (FP.dmul a 4614256656552045848) 4670677016280825856) (FP.ddiv (FP.dmul a 4614256656552045848) 4670677016280825856)) (FP.dadd 4593971859893063953 (FP.dmul (FP.dmul (FP.ddiv (FP.dmul a 4614256656552045848) 4670677016280825856) (FP.ddiv (FP.dmul a 4614256656552045848) 4670677016280825856)) 4587938466106554908))))) := fIv.mul (n := 7986) (m := 22964) (k := 2799) h3 (h7.weak (by decide +kernel) (by decide +kernel) (by decide +kernel) (by decide +kernel)) (by decide +kernel) (by decide +kernel)
  have h9 : fIv (62737) (68335) (FP.dadd FP.dconst1 (FP.dmul (FP.dmul (FP.ddiv (FP.dmul a 4614256656552045848) 4670677016280825856) (FP.ddiv (FP.dmul a 4614256656552045848) 4670677016280825856)) (FP.dadd 4599676419421066581 (FP.dmul (FP.dmul (FP.ddiv (FP.dmul a 4614256656552045848) 4670677016280825856) (FP.ddiv (FP.dmul a 4614256656552045848) 4670677016280825856)) (FP.dadd 4593971859893063953 (FP.dmul (FP.dmul (FP.ddiv (FP.dmul a 4614256656552045848) 4670677016280825856) (FP.ddiv (FP.dmul a 4614256656552045848) 4670677016280825856)) 4587938466106554908)))))) := fAdd fc_dconst1 h8 (by decide +kernel) (by decide +kernel) (by decide +kernel) (by decide +kernel)
  have h10 : fIv (-23855) (23855) (FP.dmul (FP.ddiv (FP.dmul a 4614256656552045848) 4670677016280825856) (FP.dadd FP.dconst1 (FP.dmul (FP.dmul (FP.ddiv (FP.dmul a 4614256656552045848) 4670677016280825856) (FP.ddiv (FP.dmul a 4614256656552045848) 4670677016280825856)) (FP.dadd 4599676419421066581 (FP.dmul (FP.dmul (FP.ddiv (FP.dmul a 4614256656552045848) 4670677016280825856) (FP.ddiv (FP.dmul a 4614256656552045848) 4670677016280825856)) (FP.dadd 4593971859893063953 (FP.dmul (FP.dmul (FP.ddiv (FP.dmul a 4614256656552045848) 4670677016280825856) (FP.ddiv (FP.dmul a 4614256656552045848) 4670677016280825856)) 4587938466106554908))))))) := fIv.mul (n := 22877) (m := 68335) (k := 23855) h2 (h9.weak (by decide +kernel) (by decide +kernel) (by decide +kernel) (by decide +kernel)) (by decide +kernel) (by decide +kernel)
  exact h10
theorem fSine {a : UInt64} (ha : fIv (-131072000) 131072000 a) : fIv (-23345) (23345) (sineF a) := by
  have h1 : fIv (-411776000) (411776000) (FP.dmul a 4614256656552045848) := fIv.mul (n := 131072000) (m := 205888) (k := 411776000) ha (fc_4614256656552045848.weak (by decide +kernel) (by decide +kernel) (by decide +kernel) (by decide +kernel)) (by decide +kernel) (by decide +kernel)
  have h2 : fIv (-22877) (22877) (FP.ddiv (FP.dmul a 4614256656552045848) 4670677016280825856) := fIv.div (n := 411776000) (L := 1179648000) (k := 22877) h1 fc_4670677016280825856 (by decide +kernel) (by decide +kernel) (by decide +kernel)
  have h3 : fIv (-7986) (7986) (FP.dmul (FP.ddiv (FP.dmul a 4614256656552045848) 4670677016280825856) (FP.ddiv (FP.dmul a 4614256656552045848) 4670677016280825856)) := fIv.mul (n := 22877) (m := 22877) (k := 7986) h2 h2 (by decide +kernel) (by decide +kernel)
  have h4 : fIv (-2) (2) (FP.dmul (FP.dmul (FP.ddiv (FP.dmul a 4614256656552045848) 4670677016280825856) (FP.ddiv (FP.dmul a 4614256656552045848) 4670677016280825856)) 13774824197408792602) := fIv.mul (n := 7986) (m := 14) (k := 2) h3 (fc_13774824197408792602.weak (by decide +kernel) (by decide +kernel) (by decide +kernel) (by decide +kernel)) (by decide +kernel) (by decide +kernel)
  have h5 : fIv (544) (549) (FP.dadd 4575957461383581969 (FP.dmul (FP.dmul (FP.ddiv (FP.dmul a 4614256656552045848) 4670677016280825856) (FP.ddiv (FP.dmul a 4614256656552045848) 4670677016280825856)) 13774824197408792602)) := fAdd fc_4575957461383581969 h4 (by decide +kernel) (by decide +kernel) (by decide +kernel) (by decide +kernel)
  have h6 : fIv (-67) (67) (FP.dmul (FP.dmul (FP.ddiv (FP.dmul a 4614256656552045848) 4670677016280825856) (FP.ddiv (FP.dmul a 4614256656552045848) 4670677016280825856)) (FP.dadd 4575957461383581969 (FP.dmul (FP.dmul (FP.ddiv (FP.dmul a 4614256656552045848) 4670677016280825856) (FP.ddiv (FP.dmul a 4614256656552045848) 4670677016280825856)) 13774824197408792602))) := fIv.mul (n := 7986) (m := 549) (k := 67) h3 (h5.weak (by decide +kernel) (by decide +kernel) (by decide +kernel) (by decide +kernel)) (by decide +kernel) (by decide +kernel)
  have h7 : fIv (-10990) (-10855) (FP.dadd 13818544856648471893 (FP.dmul (FP.dmul (FP.ddiv (FP.dmul a 4614256656552045848) 4670677016280825856) (FP.ddiv (FP.dmul a 4614256656552045848) 4670677016280825856)) (FP.dadd 4575957461383581969 (FP.dmul (FP.dmul (FP.ddiv (FP.dmul a 4614256656552045848) 4670677016280825856) (FP.ddiv (FP.dmul a 4614256656552045848) 4670677016280825856)) 13774824197408792602)))) := fAdd fc_13818544856648471893 h6 (by decide +kernel) (by decide +kernel) (by decide +kernel) (by decide +kernel)
  have h8 : fIv (-1340) (1340) (FP.dmul (FP.dmul (FP.ddiv (FP.dmul a 4614256656552045848) 4670677016280825856) (FP.ddiv (FP.dmul a 4614256656552045848) 4670677016280825856)) (FP.dadd 13818544856648471893 (FP.dmul (FP.dmul (FP.ddiv (FP.dmul a 4614256656552045848) 4670677016280825856) (FP.ddiv (FP.dmul a 4614256656552045848) 4670677016280825856)) (FP.dadd 4575957461383581969 (FP.dmul (FP.dmul (FP.ddiv (FP.dmul a 4614256656552045848) 4670677016280825856) (FP.ddiv (FP.dmul a 4614256656552045848) 4670677016280825856)) 13774824197408792602))))) := fIv.mul (n := 7986) (m := 10990) (k := 1340) h3 (h7.weak (by decide +kernel) (by decide +kernel) (by decide +kernel) (by decide +kernel)) (by decide +kernel) (by decide +kernel)
  have h9 : fIv (64196) (66876) (FP.dadd FP.dconst1 (FP.dmul (FP.dmul (FP.ddiv (FP.dmul a 4614256656552045848) 4670677016280825856) (FP.ddiv (FP.dmul a 4614256656552045848) 4670677016280825856)) (FP.dadd 13818544856648471893 (FP.dmul (FP.dmul (FP.ddiv (FP.dmul a 4614256656552045848) 4670677016280825856) (FP.ddiv (FP.dmul a 4614256656552045848) 4670677016280825856)) (FP.dadd 4575957461383581969 (FP.dmul (FP.dmul (FP.ddiv (FP.dmul a 4614256656552045848) 4670677016280825856) (FP.ddiv (FP.dmul a 4614256656552045848) 4670677016280825856)) 13774824197408792602)))))) := fAdd fc_dconst1 h8 (by decide +kernel) (by decide +kernel) (by decide +kernel) (by decide +kernel)
  have h10 : fIv (-23345) (23345) (FP.dmul (FP.ddiv (FP.dmul a 4614256656552045848) 4670677016280825856) (FP.dadd FP.dconst1 (FP.dmul (FP.dmul (FP.ddiv (FP.dmul a 4614256656552045848) 4670677016280825856) (FP.ddiv (FP.dmul a 4614256656552045848) 4670677016280825856)) (FP.dadd 13818544856648471893 (FP.dmul (FP.dmul (FP.ddiv (FP.dmul a 4614256656552045848) 4670677016280825856) (FP.ddiv (FP.dmul a 4614256656552045848) 4670677016280825856)) (FP.dadd 4575957461383581969 (FP.dmul (FP.dmul (FP.ddiv (FP.dmul a 4614256656552045848) 4670677016280825856) (FP.ddiv (FP.dmul a 4614256656552045848) 4670677016280825856)) 13774824197408792602))))))) := fIv.mul (n := 22877) (m := 66876) (k := 23345) h2 (h9.weak (by decide +kernel) (by decide +kernel) (by decide +kernel) (by decide +kernel)) (by decide +kernel) (by decide +kernel)
  exact h10
theorem fCos {a : UInt64} (ha : fIv (-131072000) 131072000 a) : fIv (61502) (69570) (cosF a) := by
  have h1 : fIv (-411776000) (411776000) (FP.dmul a 4614256656552045848) := fIv.mul (n := 131072000) (m := 205888) (k := 411776000) ha (fc_4614256656552045848.weak (by decide +kernel) (by decide +kernel) (by decide +kernel) (by decide +kernel)) (by decide +kernel) (by decide +kernel)
  have h2 : fIv (-22877) (22877) (FP.ddiv (FP.dmul a 4614256656552045848) 4670677016280825856) := fIv.div (n := 411776000) (L := 1179648000) (k := 22877) h1 fc_4670677016280825856 (by decide +kernel) (by decide +kernel) (by decide +kernel)
  have h3 : fIv (-7986) (7986) (FP.dmul (FP.ddiv (FP.dmul a 4614256656552045848) 4670677016280825856) (FP.ddiv (FP.dmul a 4614256656552045848) 4670677016280825856)) := fIv.mul (n := 22877) (m := 22877) (k := 7986) h2 h2 (by decide +kernel) (by decide +kernel)
  have h4 : fIv (-12) (12) (FP.dmul (FP.dmul (FP.ddiv (FP.dmul a 4614256656552045848) 4670677016280825856) (FP.ddiv (FP.dmul a 4614256656552045848) 4670677016280825856)) 13787419979223755799) := fIv.mul (n := 7986) (m := 92) (k := 12) h3 (fc_13787419979223755799.weak (by decide +kernel) (by decide +kernel) (by decide +kernel) (by decide +kernel)) (by decide +kernel) (by decide +kernel)
  have h5 : fIv (2718) (2743) (FP.dadd 4586165620538955093 (FP.dmul (FP.dmul (FP.ddiv (FP.dmul a 4614256656552045848) 4670677016280825856) (FP.ddiv (FP.dmul a 4614256656552045848) 4670677016280825856)) 13787419979223755799)) := fAdd fc_4586165620538955093 h4 (by decide +kernel) (by decide +kernel) (by decide +kernel) (by decide +kernel)
  have h6 : fIv (-335) (335) (FP.dmul (FP.dmul (FP.ddiv (FP.dmul a 4614256656552045848) 4670677016280825856) (FP.ddiv (FP.dmul a 4614256656552045848) 4670677016280825856)) (FP.dadd 4586165620538955093 (FP.dmul (FP.dmul (FP.ddiv (FP.dmul a 4614256656552045848) 4670677016280825856) (FP.ddiv (FP.dmul a 4614256656552045848) 4670677016280825856)) 13787419979223755799))) := fIv.mul (n := 7986) (m := 2743) (k := 335) h3 (h5.weak (by decide +kernel) (by decide +kernel) (by decide +kernel) (by decide +kernel)) (by decide +kernel) (by decide +kernel)
  have h7 : fIv (-33103) (-32433) (FP.dadd 13826050856027422720 (FP.dmul (FP.dmul (FP.ddiv (FP.dmul a 4614256656552045848) 4670677016280825856) (FP.ddiv (FP.dmul a 4614256656552045848) 4670677016280825856)) (FP.dadd 4586165620538955093 (FP.dmul (FP.dmul (FP.ddiv (FP.dmul a 4614256656552045848) 4670677016280825856) (FP.ddiv (FP.dmul a 4614256656552045848) 4670677016280825856)) 13787419979223755799)))) := fAdd fc_13826050856027422720 h6 (by decide +kernel) (by decide +kernel) (by decide +kernel) (by decide +kernel)
  have h8 : fIv (-4034) (4034) (FP.dmul (FP.dmul (FP.ddiv (FP.dmul a 4614256656552045848) 4670677016280825856) (FP.ddiv (FP.dmul a 4614256656552045848) 4670677016280825856)) (FP.dadd 13826050856027422720 (FP.dmul (FP.dmul (FP.ddiv (FP.dmul a 4614256656552045848) 4670677016280825856) (FP.ddiv (FP.dmul a 4614256656552045848) 4670677016280825856)) (FP.dadd 4586165620538955093 (FP.dmul (FP.dmul (FP.ddiv (FP.dmul a 4614256656552045848) 4670677016280825856) (FP.ddiv (FP.dmul a 4614256656552045848) 4670677016280825856)) 13787419979223755799))))) := fIv.mul (n := 7986) (m := 33103) (k := 4034) h3 (h7.weak (by decide +kernel) (by decide +kernel) (by decide +kernel) (by decide +kernel)) (by decide +kernel) (by decide +kernel)
  have h9 : fIv (61502) (69570) (FP.dadd FP.dconst1 (FP.dmul (FP.dmul (FP.ddiv (FP.dmul a 4614256656552045848) 4670677016280825856) (FP.ddiv (FP.dmul a 4614256656552045848) 4670677016280825856)) (FP.dadd 13826050856027422720 (FP.dmul (FP.dmul (FP.ddiv (FP.dmul a 4614256656552045848) 4670677016280825856) (FP.ddiv (FP.dmul a 4614256656552045848) 4670677016280825856)) (FP.dadd 4586165620538955093 (FP.dmul (FP.dmul (FP.ddiv (FP.dmul a 4614256656552045848) 4670677016280825856) (FP.ddiv (FP.dmul a 4614256656552045848) 4670677016280825856)) 13787419979223755799)))))) := fAdd fc_dconst1 h8 (by decide +kernel) (by decide +kernel) (by decide +kernel) (by decide +kernel)
  exact h9
theorem wd_kX1_radians_c7 : Cond.constantDouble RX1 7 (4614256656552045848) ∈ wsX1_radians := by decide +kernel
theorem wd_kX1_radians_c9 : Cond.constantDouble RX1 9 (4670677016280825856) ∈ wsX1_radians := by decide +kernel
abbrev rmX1_radians : Room := { frames := 0, cells := 0, slots := 0, locals := 0 }
set_option maxRecDepth 100000 in
set_option maxHeartbeats 4000000 in
theorem kX1_radians (l : Launch) (G : va_G) (cI cZ cJ cD : ClassId) (a : UInt64) (ha : fIv (-131072000) 131072000 a) : Cd l G (kTy cI cZ cJ cD) yX1_radians wsX1_radians rmX1_radians [.double a] [] (radF a) [] := by
  refine Cd.of rfl rfl (cc := cX1_radians) (maxL := 2) (plainFor_of_name (by decide)) rfl (Nat.le_of_ble_eq_true rfl) rfl ?_
  intro p e s m args below meth c A Q hx hb hml hts hown hA hK hP hD hS hend ls hl
  refine lv_dload_n hx hb dX1_radians_0 rfl (lv_at hl 0 rfl) ?_
  refine lv_ldc2d (v := 4614256656552045848) hx hb hown (hts _ wd_kX1_radians_c7) dX1_radians_1 ?_
  have b1 : fIv (-411776000) (411776000) (FP.dmul a 4614256656552045848) := fIv.mul (n := 131072000) (m := 205888) (k := 411776000) ha (fc_4614256656552045848.weak (by decide +kernel) (by decide +kernel) (by decide +kernel) (by decide +kernel)) (by decide +kernel) (by decide +kernel)
  refine lv_dmul hx hb dX1_radians_4 b1.n64 ?_
  refine lv_ldc2d (v := 4670677016280825856) hx hb hown (hts _ wd_kX1_radians_c9) dX1_radians_5 ?_
  have b2 : fIv (-22877) (22877) (FP.ddiv (FP.dmul a 4614256656552045848) 4670677016280825856) := fIv.div (n := 411776000) (L := 1179648000) (k := 22877) b1 fc_4670677016280825856 (by decide +kernel) (by decide +kernel) (by decide +kernel)
  refine lv_ddiv hx hb dX1_radians_8 b2.n64 ?_
  exact hend _ _ _ _ _ _ dX1_radians_9 hP hD hS rfl rfl
theorem wd_kX1_slope_c17 : Cond.constantDouble RX1 17 (4599676419421066581) ∈ wsX1_slope := by decide +kernel
theorem wd_kX1_slope_c19 : Cond.constantDouble RX1 19 (4593971859893063953) ∈ wsX1_slope := by decide +kernel
theorem wd_kX1_slope_c21 : Cond.constantDouble RX1 21 (4587938466106554908) ∈ wsX1_slope := by decide +kernel
abbrev rmX1_slope : Room := { frames := 1, cells := 0, slots := 0, locals := 21 }
set_option maxRecDepth 100000 in
set_option maxHeartbeats 4000000 in
theorem kX1_slope (l : Launch) (G : va_G) (cI cZ cJ cD : ClassId) (a : UInt64) (ha : fIv (-131072000) 131072000 a) : Cd l G (kTy cI cZ cJ cD) yX1_slope wsX1_slope rmX1_slope [.double a] [] (slopeF a) [] := by
  refine Cd.of rfl rfl (cc := cX1_slope) (maxL := 6) (plainFor_of_name (by decide)) rfl (Nat.le_of_ble_eq_true rfl) rfl ?_
  intro p e s m args below meth c A Q hx hb hml hts hown hA hK hP hD hS hend ls hl
  refine lv_dload_n hx hb dX1_slope_0 rfl (lv_at hl 0 rfl) ?_
  refine kSd (rest := []) (kX1_radians l G cI cZ cJ cD a ha) ⟨hx, hb, hml, hown, hts⟩ (va_cwS 1 hts gX1_slope_X1_radians rfl rfl rfl hs_X1_radians ⟨Nat.le_of_ble_eq_true rfl, Nat.le_of_ble_eq_true rfl⟩) hK hP hD hS hA rfl hl.1 rfl (Nat.le_of_ble_eq_true rfl) dX1_slope_1 ⟨Nat.le_of_ble_eq_true rfl, Nat.le_of_ble_eq_true rfl⟩ rfl rfl (fun H locs hP hD hS => ?_)
  have b1 : fIv (-22877) (22877) (radF a) := fRad ha
  refine lv_dstore_n (lv' := [(2, .double (radF a)), (0, .double a)]) hx hb dX1_slope_4 rfl hl (by decide) rfl (fun ls hl => ?_)
  refine lv_dload_n hx hb dX1_slope_5 rfl (lv_at hl 0 rfl) ?_
  refine lv_dload_n hx hb dX1_slope_6 rfl (lv_at hl 0 rfl) ?_
  have b2 : fIv (-7986) (7986) (FP.dmul (radF a) (radF a)) := fIv.mul (n := 22877) (m := 22877) (k := 7986) b1 b1 (by decide +kernel) (by decide +kernel)
  refine lv_dmul hx hb dX1_slope_7 b2.n64 ?_
  refine lv_dstore (lv' := [(4, .double (FP.dmul (radF a) (radF a))), (2, .double (radF a)), (0, .double a)]) hx hb dX1_slope_8 hl (by decide) rfl (fun ls hl => ?_)
  refine lv_dload_n hx hb dX1_slope_10 rfl (lv_at hl 1 rfl) ?_
  refine lv_dconst1 hx hb dX1_slope_11 ?_
  refine lv_dload hx hb dX1_slope_12 (lv_at hl 0 rfl) ?_
  refine lv_ldc2d (v := 4599676419421066581) hx hb hown (hts _ wd_kX1_slope_c17) dX1_slope_14 ?_
  refine lv_dload hx hb dX1_slope_17 (lv_at hl 0 rfl) ?_
  refine lv_ldc2d (v := 4593971859893063953) hx hb hown (hts _ wd_kX1_slope_c19) dX1_slope_19 ?_
  refine lv_dload hx hb dX1_slope_22 (lv_at hl 0 rfl) ?_
  refine lv_ldc2d (v := 4587938466106554908) hx hb hown (hts _ wd_kX1_slope_c21) dX1_slope_24 ?_
  have b3 : fIv (-432) (432) (FP.dmul (FP.dmul (radF a) (radF a)) 4587938466106554908) := fIv.mul (n := 7986) (m := 3537) (k := 432) b2 (fc_4587938466106554908.weak (by decide +kernel) (by decide +kernel) (by decide +kernel) (by decide +kernel)) (by decide +kernel) (by decide +kernel)
  refine lv_dmul hx hb dX1_slope_27 b3.n64 ?_
  have b4 : fIv (8306) (9171) (FP.dadd 4593971859893063953 (FP.dmul (FP.dmul (radF a) (radF a)) 4587938466106554908)) := fAdd fc_4593971859893063953 b3 (by decide +kernel) (by decide +kernel) (by decide +kernel) (by decide +kernel)
  refine lv_dadd hx hb dX1_slope_28 b4.n64 ?_
  have b5 : fIv (-1118) (1118) (FP.dmul (FP.dmul (radF a) (radF a)) (FP.dadd 4593971859893063953 (FP.dmul (FP.dmul (radF a) (radF a)) 4587938466106554908))) := fIv.mul (n := 7986) (m := 9171) (k := 1118) b2 (b4.weak (by decide +kernel) (by decide +kernel) (by decide +kernel) (by decide +kernel)) (by decide +kernel) (by decide +kernel)
  refine lv_dmul hx hb dX1_slope_29 b5.n64 ?_
  have b6 : fIv (20727) (22964) (FP.dadd 4599676419421066581 (FP.dmul (FP.dmul (radF a) (radF a)) (FP.dadd 4593971859893063953 (FP.dmul (FP.dmul (radF a) (radF a)) 4587938466106554908)))) := fAdd fc_4599676419421066581 b5 (by decide +kernel) (by decide +kernel) (by decide +kernel) (by decide +kernel)
  refine lv_dadd hx hb dX1_slope_30 b6.n64 ?_
  have b7 : fIv (-2799) (2799) (FP.dmul (FP.dmul (radF a) (radF a)) (FP.dadd 4599676419421066581 (FP.dmul (FP.dmul (radF a) (radF a)) (FP.dadd 4593971859893063953 (FP.dmul (FP.dmul (radF a) (radF a)) 4587938466106554908))))) := fIv.mul (n := 7986) (m := 22964) (k := 2799) b2 (b6.weak (by decide +kernel) (by decide +kernel) (by decide +kernel) (by decide +kernel)) (by decide +kernel) (by decide +kernel)
  refine lv_dmul hx hb dX1_slope_31 b7.n64 ?_
  have b8 : fIv (62737) (68335) (FP.dadd FP.dconst1 (FP.dmul (FP.dmul (radF a) (radF a)) (FP.dadd 4599676419421066581 (FP.dmul (FP.dmul (radF a) (radF a)) (FP.dadd 4593971859893063953 (FP.dmul (FP.dmul (radF a) (radF a)) 4587938466106554908)))))) := fAdd fc_dconst1 b7 (by decide +kernel) (by decide +kernel) (by decide +kernel) (by decide +kernel)
  refine lv_dadd hx hb dX1_slope_32 b8.n64 ?_
  have b9 : fIv (-23855) (23855) (FP.dmul (radF a) (FP.dadd FP.dconst1 (FP.dmul (FP.dmul (radF a) (radF a)) (FP.dadd 4599676419421066581 (FP.dmul (FP.dmul (radF a) (radF a)) (FP.dadd 4593971859893063953 (FP.dmul (FP.dmul (radF a) (radF a)) 4587938466106554908))))))) := fIv.mul (n := 22877) (m := 68335) (k := 23855) b1 (b8.weak (by decide +kernel) (by decide +kernel) (by decide +kernel) (by decide +kernel)) (by decide +kernel) (by decide +kernel)
  refine lv_dmul hx hb dX1_slope_33 b9.n64 ?_
  exact hend _ _ _ _ _ _ dX1_slope_34 hP hD hS rfl rfl
theorem wd_kX1_sine_c23 : Cond.constantDouble RX1 23 (13818544856648471893) ∈ wsX1_sine := by decide +kernel
theorem wd_kX1_sine_c25 : Cond.constantDouble RX1 25 (4575957461383581969) ∈ wsX1_sine := by decide +kernel
theorem wd_kX1_sine_c27 : Cond.constantDouble RX1 27 (13774824197408792602) ∈ wsX1_sine := by decide +kernel
abbrev rmX1_sine : Room := { frames := 1, cells := 0, slots := 0, locals := 21 }
set_option maxRecDepth 100000 in
set_option maxHeartbeats 4000000 in
theorem kX1_sine (l : Launch) (G : va_G) (cI cZ cJ cD : ClassId) (a : UInt64) (ha : fIv (-131072000) 131072000 a) : Cd l G (kTy cI cZ cJ cD) yX1_sine wsX1_sine rmX1_sine [.double a] [] (sineF a) [] := by
  refine Cd.of rfl rfl (cc := cX1_sine) (maxL := 6) (plainFor_of_name (by decide)) rfl (Nat.le_of_ble_eq_true rfl) rfl ?_
  intro p e s m args below meth c A Q hx hb hml hts hown hA hK hP hD hS hend ls hl
  refine lv_dload_n hx hb dX1_sine_0 rfl (lv_at hl 0 rfl) ?_
  refine kSd (rest := []) (kX1_radians l G cI cZ cJ cD a ha) ⟨hx, hb, hml, hown, hts⟩ (va_cwS 1 hts gX1_sine_X1_radians rfl rfl rfl hs_X1_radians ⟨Nat.le_of_ble_eq_true rfl, Nat.le_of_ble_eq_true rfl⟩) hK hP hD hS hA rfl hl.1 rfl (Nat.le_of_ble_eq_true rfl) dX1_sine_1 ⟨Nat.le_of_ble_eq_true rfl, Nat.le_of_ble_eq_true rfl⟩ rfl rfl (fun H locs hP hD hS => ?_)
  have b1 : fIv (-22877) (22877) (radF a) := fRad ha
  refine lv_dstore_n (lv' := [(2, .double (radF a)), (0, .double a)]) hx hb dX1_sine_4 rfl hl (by decide) rfl (fun ls hl => ?_)
  refine lv_dload_n hx hb dX1_sine_5 rfl (lv_at hl 0 rfl) ?_
  refine lv_dload_n hx hb dX1_sine_6 rfl (lv_at hl 0 rfl) ?_
  have b2 : fIv (-7986) (7986) (FP.dmul (radF a) (radF a)) := fIv.mul (n := 22877) (m := 22877) (k := 7986) b1 b1 (by decide +kernel) (by decide +kernel)
  refine lv_dmul hx hb dX1_sine_7 b2.n64 ?_
  refine lv_dstore (lv' := [(4, .double (FP.dmul (radF a) (radF a))), (2, .double (radF a)), (0, .double a)]) hx hb dX1_sine_8 hl (by decide) rfl (fun ls hl => ?_)
  refine lv_dload_n hx hb dX1_sine_10 rfl (lv_at hl 1 rfl) ?_
  refine lv_dconst1 hx hb dX1_sine_11 ?_
  refine lv_dload hx hb dX1_sine_12 (lv_at hl 0 rfl) ?_
  refine lv_ldc2d (v := 13818544856648471893) hx hb hown (hts _ wd_kX1_sine_c23) dX1_sine_14 ?_
  refine lv_dload hx hb dX1_sine_17 (lv_at hl 0 rfl) ?_
  refine lv_ldc2d (v := 4575957461383581969) hx hb hown (hts _ wd_kX1_sine_c25) dX1_sine_19 ?_
  refine lv_dload hx hb dX1_sine_22 (lv_at hl 0 rfl) ?_
  refine lv_ldc2d (v := 13774824197408792602) hx hb hown (hts _ wd_kX1_sine_c27) dX1_sine_24 ?_
  have b3 : fIv (-2) (2) (FP.dmul (FP.dmul (radF a) (radF a)) 13774824197408792602) := fIv.mul (n := 7986) (m := 14) (k := 2) b2 (fc_13774824197408792602.weak (by decide +kernel) (by decide +kernel) (by decide +kernel) (by decide +kernel)) (by decide +kernel) (by decide +kernel)
  refine lv_dmul hx hb dX1_sine_27 b3.n64 ?_
  have b4 : fIv (544) (549) (FP.dadd 4575957461383581969 (FP.dmul (FP.dmul (radF a) (radF a)) 13774824197408792602)) := fAdd fc_4575957461383581969 b3 (by decide +kernel) (by decide +kernel) (by decide +kernel) (by decide +kernel)
  refine lv_dadd hx hb dX1_sine_28 b4.n64 ?_
  have b5 : fIv (-67) (67) (FP.dmul (FP.dmul (radF a) (radF a)) (FP.dadd 4575957461383581969 (FP.dmul (FP.dmul (radF a) (radF a)) 13774824197408792602))) := fIv.mul (n := 7986) (m := 549) (k := 67) b2 (b4.weak (by decide +kernel) (by decide +kernel) (by decide +kernel) (by decide +kernel)) (by decide +kernel) (by decide +kernel)
  refine lv_dmul hx hb dX1_sine_29 b5.n64 ?_
  have b6 : fIv (-10990) (-10855) (FP.dadd 13818544856648471893 (FP.dmul (FP.dmul (radF a) (radF a)) (FP.dadd 4575957461383581969 (FP.dmul (FP.dmul (radF a) (radF a)) 13774824197408792602)))) := fAdd fc_13818544856648471893 b5 (by decide +kernel) (by decide +kernel) (by decide +kernel) (by decide +kernel)
  refine lv_dadd hx hb dX1_sine_30 b6.n64 ?_
  have b7 : fIv (-1340) (1340) (FP.dmul (FP.dmul (radF a) (radF a)) (FP.dadd 13818544856648471893 (FP.dmul (FP.dmul (radF a) (radF a)) (FP.dadd 4575957461383581969 (FP.dmul (FP.dmul (radF a) (radF a)) 13774824197408792602))))) := fIv.mul (n := 7986) (m := 10990) (k := 1340) b2 (b6.weak (by decide +kernel) (by decide +kernel) (by decide +kernel) (by decide +kernel)) (by decide +kernel) (by decide +kernel)
  refine lv_dmul hx hb dX1_sine_31 b7.n64 ?_
  have b8 : fIv (64196) (66876) (FP.dadd FP.dconst1 (FP.dmul (FP.dmul (radF a) (radF a)) (FP.dadd 13818544856648471893 (FP.dmul (FP.dmul (radF a) (radF a)) (FP.dadd 4575957461383581969 (FP.dmul (FP.dmul (radF a) (radF a)) 13774824197408792602)))))) := fAdd fc_dconst1 b7 (by decide +kernel) (by decide +kernel) (by decide +kernel) (by decide +kernel)
  refine lv_dadd hx hb dX1_sine_32 b8.n64 ?_
  have b9 : fIv (-23345) (23345) (FP.dmul (radF a) (FP.dadd FP.dconst1 (FP.dmul (FP.dmul (radF a) (radF a)) (FP.dadd 13818544856648471893 (FP.dmul (FP.dmul (radF a) (radF a)) (FP.dadd 4575957461383581969 (FP.dmul (FP.dmul (radF a) (radF a)) 13774824197408792602))))))) := fIv.mul (n := 22877) (m := 66876) (k := 23345) b1 (b8.weak (by decide +kernel) (by decide +kernel) (by decide +kernel) (by decide +kernel)) (by decide +kernel) (by decide +kernel)
  refine lv_dmul hx hb dX1_sine_33 b9.n64 ?_
  exact hend _ _ _ _ _ _ dX1_sine_34 hP hD hS rfl rfl
theorem wd_kX1_cosine_c29 : Cond.constantDouble RX1 29 (13826050856027422720) ∈ wsX1_cosine := by decide +kernel
theorem wd_kX1_cosine_c31 : Cond.constantDouble RX1 31 (4586165620538955093) ∈ wsX1_cosine := by decide +kernel
theorem wd_kX1_cosine_c33 : Cond.constantDouble RX1 33 (13787419979223755799) ∈ wsX1_cosine := by decide +kernel
abbrev rmX1_cosine : Room := { frames := 1, cells := 0, slots := 0, locals := 21 }
set_option maxRecDepth 100000 in
set_option maxHeartbeats 4000000 in
theorem kX1_cosine (l : Launch) (G : va_G) (cI cZ cJ cD : ClassId) (a : UInt64) (ha : fIv (-131072000) 131072000 a) : Cd l G (kTy cI cZ cJ cD) yX1_cosine wsX1_cosine rmX1_cosine [.double a] [] (cosF a) [] := by
  refine Cd.of rfl rfl (cc := cX1_cosine) (maxL := 6) (plainFor_of_name (by decide)) rfl (Nat.le_of_ble_eq_true rfl) rfl ?_
  intro p e s m args below meth c A Q hx hb hml hts hown hA hK hP hD hS hend ls hl
  refine lv_dload_n hx hb dX1_cosine_0 rfl (lv_at hl 0 rfl) ?_
  refine kSd (rest := []) (kX1_radians l G cI cZ cJ cD a ha) ⟨hx, hb, hml, hown, hts⟩ (va_cwS 1 hts gX1_cosine_X1_radians rfl rfl rfl hs_X1_radians ⟨Nat.le_of_ble_eq_true rfl, Nat.le_of_ble_eq_true rfl⟩) hK hP hD hS hA rfl hl.1 rfl (Nat.le_of_ble_eq_true rfl) dX1_cosine_1 ⟨Nat.le_of_ble_eq_true rfl, Nat.le_of_ble_eq_true rfl⟩ rfl rfl (fun H locs hP hD hS => ?_)
  have b1 : fIv (-22877) (22877) (radF a) := fRad ha
  refine lv_dstore_n (lv' := [(2, .double (radF a)), (0, .double a)]) hx hb dX1_cosine_4 rfl hl (by decide) rfl (fun ls hl => ?_)
  refine lv_dload_n hx hb dX1_cosine_5 rfl (lv_at hl 0 rfl) ?_
  refine lv_dload_n hx hb dX1_cosine_6 rfl (lv_at hl 0 rfl) ?_
  have b2 : fIv (-7986) (7986) (FP.dmul (radF a) (radF a)) := fIv.mul (n := 22877) (m := 22877) (k := 7986) b1 b1 (by decide +kernel) (by decide +kernel)
  refine lv_dmul hx hb dX1_cosine_7 b2.n64 ?_
  refine lv_dstore (lv' := [(4, .double (FP.dmul (radF a) (radF a))), (2, .double (radF a)), (0, .double a)]) hx hb dX1_cosine_8 hl (by decide) rfl (fun ls hl => ?_)
  refine lv_dconst1 hx hb dX1_cosine_10 ?_
  refine lv_dload hx hb dX1_cosine_11 (lv_at hl 0 rfl) ?_
  refine lv_ldc2d (v := 13826050856027422720) hx hb hown (hts _ wd_kX1_cosine_c29) dX1_cosine_13 ?_
  refine lv_dload hx hb dX1_cosine_16 (lv_at hl 0 rfl) ?_
  refine lv_ldc2d (v := 4586165620538955093) hx hb hown (hts _ wd_kX1_cosine_c31) dX1_cosine_18 ?_
  refine lv_dload hx hb dX1_cosine_21 (lv_at hl 0 rfl) ?_
  refine lv_ldc2d (v := 13787419979223755799) hx hb hown (hts _ wd_kX1_cosine_c33) dX1_cosine_23 ?_
  have b3 : fIv (-12) (12) (FP.dmul (FP.dmul (radF a) (radF a)) 13787419979223755799) := fIv.mul (n := 7986) (m := 92) (k := 12) b2 (fc_13787419979223755799.weak (by decide +kernel) (by decide +kernel) (by decide +kernel) (by decide +kernel)) (by decide +kernel) (by decide +kernel)
  refine lv_dmul hx hb dX1_cosine_26 b3.n64 ?_
  have b4 : fIv (2718) (2743) (FP.dadd 4586165620538955093 (FP.dmul (FP.dmul (radF a) (radF a)) 13787419979223755799)) := fAdd fc_4586165620538955093 b3 (by decide +kernel) (by decide +kernel) (by decide +kernel) (by decide +kernel)
  refine lv_dadd hx hb dX1_cosine_27 b4.n64 ?_
  have b5 : fIv (-335) (335) (FP.dmul (FP.dmul (radF a) (radF a)) (FP.dadd 4586165620538955093 (FP.dmul (FP.dmul (radF a) (radF a)) 13787419979223755799))) := fIv.mul (n := 7986) (m := 2743) (k := 335) b2 (b4.weak (by decide +kernel) (by decide +kernel) (by decide +kernel) (by decide +kernel)) (by decide +kernel) (by decide +kernel)
  refine lv_dmul hx hb dX1_cosine_28 b5.n64 ?_
  have b6 : fIv (-33103) (-32433) (FP.dadd 13826050856027422720 (FP.dmul (FP.dmul (radF a) (radF a)) (FP.dadd 4586165620538955093 (FP.dmul (FP.dmul (radF a) (radF a)) 13787419979223755799)))) := fAdd fc_13826050856027422720 b5 (by decide +kernel) (by decide +kernel) (by decide +kernel) (by decide +kernel)
  refine lv_dadd hx hb dX1_cosine_29 b6.n64 ?_
  have b7 : fIv (-4034) (4034) (FP.dmul (FP.dmul (radF a) (radF a)) (FP.dadd 13826050856027422720 (FP.dmul (FP.dmul (radF a) (radF a)) (FP.dadd 4586165620538955093 (FP.dmul (FP.dmul (radF a) (radF a)) 13787419979223755799))))) := fIv.mul (n := 7986) (m := 33103) (k := 4034) b2 (b6.weak (by decide +kernel) (by decide +kernel) (by decide +kernel) (by decide +kernel)) (by decide +kernel) (by decide +kernel)
  refine lv_dmul hx hb dX1_cosine_30 b7.n64 ?_
  have b8 : fIv (61502) (69570) (FP.dadd FP.dconst1 (FP.dmul (FP.dmul (radF a) (radF a)) (FP.dadd 13826050856027422720 (FP.dmul (FP.dmul (radF a) (radF a)) (FP.dadd 4586165620538955093 (FP.dmul (FP.dmul (radF a) (radF a)) 13787419979223755799)))))) := fAdd fc_dconst1 b7 (by decide +kernel) (by decide +kernel) (by decide +kernel) (by decide +kernel)
  refine lv_dadd hx hb dX1_cosine_31 b8.n64 ?_
  exact hend _ _ _ _ _ _ dX1_cosine_32 hP hD hS rfl rfl
theorem wd_kX1_whole_c35 : Cond.constantDouble RX1 35 (4602678819172646912) ∈ wsX1_whole := by decide +kernel
abbrev rmX1_whole : Room := { frames := 0, cells := 0, slots := 0, locals := 0 }
set_option maxRecDepth 100000 in
set_option maxHeartbeats 4000000 in
theorem kX1_whole (l : Launch) (G : va_G) (cI cZ cJ cD : ClassId) (v : UInt64) (lo hi : Int) (hr : fIv lo hi (FP.dadd v 4602678819172646912)) : Ci l G (kTy cI cZ cJ cD) yX1_whole wsX1_whole rmX1_whole [.double v] [] (wholeF v) [] := by
  refine Ci.of .int rfl rfl rfl (cc := cX1_whole) (maxL := 5) (plainFor_of_name (by decide)) rfl (Nat.le_of_ble_eq_true rfl) rfl ?_
  intro p e s m args below meth c A Q hx hb hml hts hown hA hK hP hD hS hend ls hl
  refine lv_dload_n hx hb dX1_whole_0 rfl (lv_at hl 0 rfl) ?_
  refine lv_ldc2d (v := 4602678819172646912) hx hb hown (hts _ wd_kX1_whole_c35) dX1_whole_1 ?_
  refine lv_dadd hx hb dX1_whole_4 hr.n64 ?_
  refine lv_dstore_n (lv' := [(2, .double (FP.dadd v 4602678819172646912)), (0, .double v)]) hx hb dX1_whole_5 rfl hl (by decide) rfl (fun ls hl => ?_)
  refine lv_dload_n hx hb dX1_whole_6 rfl (lv_at hl 0 rfl) ?_
  refine lv_d2i hx hb dX1_whole_7 ?_
  refine lv_istore (lv' := [(4, .int (FP.d2i (FP.dadd v 4602678819172646912))), (2, .double (FP.dadd v 4602678819172646912)), (0, .double v)]) hx hb dX1_whole_8 hl (by decide) rfl (fun ls hl => ?_)
  refine lv_iload hx hb dX1_whole_10 (lv_at hl 0 rfl) ?_
  refine lv_i2d hx hb dX1_whole_12 ?_
  refine lv_dload_n hx hb dX1_whole_13 rfl (lv_at hl 1 rfl) ?_
  refine lv_dcmp hx hb dX1_whole_14 ?_
  refine lv_if_le (tgt := 25) hx hb dX1_whole_15 (by decide) (fun c_15 => ?_) (fun c_15 => ?_)
  · refine lv_iload hx hb dX1_whole_25 (lv_at hl 0 rfl) ?_
    exact hend _ _ _ _ _ _ dX1_whole_27 hP hD hS (by first | rfl | (simp only [wholeF, c_15, ↓reduceIte]; done) | (simp [wholeF, c_15]; done)) rfl
  · refine lv_iload hx hb dX1_whole_18 (lv_at hl 0 rfl) ?_
    refine lv_iconst (v := 1) hx hb dX1_whole_20 (by decide) ?_
    refine lv_isub hx hb dX1_whole_21 ?_
    refine lv_goto (tgt := 27) hx hb dX1_whole_22 (by decide) ?_
    exact hend _ _ _ _ _ _ dX1_whole_27 hP hD hS (by first | rfl | (simp only [wholeF, c_15, ↓reduceIte]; done) | (simp [wholeF, c_15]; done)) rfl
/-! shears and sampling of rows of bits -/
def shrF (w h : Nat) (t : UInt64) (dir : Int32) (k : Nat) (r : Int32) : Int32 := movF w r (dir * wholeF (FP.dmul (FP.dsub (midF h) (FP.i2d (nI k))) t))
def colN (h : Nat) (O : Nat → Int32) (x : Nat) (dn : Int32) (B : Nat → Int32) : Nat → Nat → Int32
  | 0 => B
  | j + 1 => setF (colN h O x dn B j) (wrapF (nI j + dn) (nI h)) (rowF (colN h O x dn B j) (wrapF (nI j + dn) (nI h)) ||| (rowF O (nI j) &&& (1 <<< (nI x &&& 31))))
def colsN (w h : Nat) (O : Nat → Int32) (s : UInt64) (dir : Int32) (B : Nat → Int32) : Nat → Nat → Int32
  | 0 => B
  | i + 1 => colN h O i (dir * wholeF (FP.dmul (FP.dsub (FP.i2d (nI i)) (midF w)) s)) (colsN w h O s dir B i) h
def frX (w h : Nat) (s c : UInt64) (x y : Nat) : Int32 := wholeF (FP.dadd (FP.dadd (midF w) (FP.dmul (FP.dsub (FP.i2d (nI x)) (midF w)) c)) (FP.dmul (FP.dsub (FP.i2d (nI y)) (midF h)) s))
def frY (w h : Nat) (s c : UInt64) (x y : Nat) : Int32 := wholeF (FP.dadd (FP.dsub (midF h) (FP.dmul (FP.dsub (FP.i2d (nI x)) (midF w)) s)) (FP.dmul (FP.dsub (FP.i2d (nI y)) (midF h)) c))
def smpB (w h : Nat) (O : Nat → Int32) (s c : UInt64) (x y : Nat) : Bool := if hasB w h (frX w h s c x y) (frY w h s c x y) = false then false else if sUshr (rowF O (frY w h s c x y)) (frX w h s c x y) &&& 1 = 0 then false else true
def smpN (w h : Nat) (O : Nat → Int32) (s c : UInt64) (y : Nat) : Nat → Int32
  | 0 => 0
  | x + 1 => if smpB w h O s c x y = true then smpN w h O s c y x ||| (1 <<< (nI x &&& 31)) else smpN w h O s c y x
def keepN (B O : Nat → Int32) : Nat → Int32 := mapN (fun k _ => B k) O 24
def wipeN (B : Nat → Int32) (h : Nat) : Nat → Int32 := mapN (fun _ _ => 0) B h
def shrR (w h : Nat) (t : UInt64) (dir : Int32) (B : Nat → Int32) : Nat → Int32 := mapN (shrF w h t dir) B h
def shrC (w h : Nat) (s : UInt64) (dir : Int32) (B O : Nat → Int32) : Nat → Int32 := colsN w h (keepN B O) s dir (wipeN B h) w
def angT (a : Int32) : UInt64 := slopeF (FP.ddiv (FP.i2d a) 4611686018427387904)
def angS (a : Int32) : UInt64 := sineF (FP.i2d a)
def angC (a : Int32) : UInt64 := cosF (FP.i2d a)
def shrAB (w h : Nat) (a dir : Int32) (B O : Nat → Int32) : Nat → Int32 := shrR w h (angT a) dir (shrC w h (angS a) dir (shrR w h (angT a) dir B) O)
def shrAO (w h : Nat) (a dir : Int32) (B O : Nat → Int32) : Nat → Int32 := keepN (shrR w h (angT a) dir B) O
def smpR (w h : Nat) (a : Int32) (B O : Nat → Int32) : Nat → Int32 := mapN (fun k _ => smpN w h (keepN B O) (angS a) (angC a) k w) B h
