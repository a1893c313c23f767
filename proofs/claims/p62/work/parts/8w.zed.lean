/-! .. the rows of the law's third group (by gen/mk8w.py) -/
def zr (p0 p1 p2 p3 p4 p5 p6 p7 p8 p9 p12 p15 p16 p18 p19 p20 p21 p23 p24 p25 p26 p27 p39 p51 p63 p75 p87 p99 p111 p131 : Int32) : md_R := fun j => if j = 0 then p0 else if j = 1 then p1 else if j = 2 then p2 else if j = 3 then p3 else if j = 4 then p4 else if j = 5 then p5 else if j = 6 then p6 else if j = 7 then p7 else if j = 8 then p8 else if j = 9 then p9 else if j = 12 then p12 else if j = 15 then p15 else if j = 16 then p16 else if j = 18 then p18 else if j = 19 then p19 else if j = 20 then p20 else if j = 21 then p21 else if j = 23 then p23 else if j = 24 then p24 else if j = 25 then p25 else if j = 26 then p26 else if j = 27 then p27 else if j = 39 then p39 else if j = 51 then p51 else if j = 63 then p63 else if j = 75 then p75 else if j = 87 then p87 else if j = 99 then p99 else if j = 111 then p111 else if j = 131 then p131 else if j = 17 then 400 else 0
theorem ru_0 {p0 p1 p2 p3 p4 p5 p6 p7 p8 p9 p12 p15 p16 p18 p19 p20 p21 p23 p24 p25 p26 p27 p39 p51 p63 p75 p87 p99 p111 p131 z : Int32} : va_up (zr p0 p1 p2 p3 p4 p5 p6 p7 p8 p9 p12 p15 p16 p18 p19 p20 p21 p23 p24 p25 p26 p27 p39 p51 p63 p75 p87 p99 p111 p131) 0 z = zr z p1 p2 p3 p4 p5 p6 p7 p8 p9 p12 p15 p16 p18 p19 p20 p21 p23 p24 p25 p26 p27 p39 p51 p63 p75 p87 p99 p111 p131 := by
  funext j
  by_cases h : j = 0
  · subst h; rfl
  · simp only [va_up, zr, h, if_false]
theorem ru_1 {p0 p1 p2 p3 p4 p5 p6 p7 p8 p9 p12 p15 p16 p18 p19 p20 p21 p23 p24 p25 p26 p27 p39 p51 p63 p75 p87 p99 p111 p131 z : Int32} : va_up (zr p0 p1 p2 p3 p4 p5 p6 p7 p8 p9 p12 p15 p16 p18 p19 p20 p21 p23 p24 p25 p26 p27 p39 p51 p63 p75 p87 p99 p111 p131) 1 z = zr p0 z p2 p3 p4 p5 p6 p7 p8 p9 p12 p15 p16 p18 p19 p20 p21 p23 p24 p25 p26 p27 p39 p51 p63 p75 p87 p99 p111 p131 := by
  funext j
  by_cases h : j = 1
  · subst h; rfl
  · simp only [va_up, zr, h, if_false]
theorem ru_2 {p0 p1 p2 p3 p4 p5 p6 p7 p8 p9 p12 p15 p16 p18 p19 p20 p21 p23 p24 p25 p26 p27 p39 p51 p63 p75 p87 p99 p111 p131 z : Int32} : va_up (zr p0 p1 p2 p3 p4 p5 p6 p7 p8 p9 p12 p15 p16 p18 p19 p20 p21 p23 p24 p25 p26 p27 p39 p51 p63 p75 p87 p99 p111 p131) 2 z = zr p0 p1 z p3 p4 p5 p6 p7 p8 p9 p12 p15 p16 p18 p19 p20 p21 p23 p24 p25 p26 p27 p39 p51 p63 p75 p87 p99 p111 p131 := by
  funext j
  by_cases h : j = 2
  · subst h; rfl
  · simp only [va_up, zr, h, if_false]
theorem ru_3 {p0 p1 p2 p3 p4 p5 p6 p7 p8 p9 p12 p15 p16 p18 p19 p20 p21 p23 p24 p25 p26 p27 p39 p51 p63 p75 p87 p99 p111 p131 z : Int32} : va_up (zr p0 p1 p2 p3 p4 p5 p6 p7 p8 p9 p12 p15 p16 p18 p19 p20 p21 p23 p24 p25 p26 p27 p39 p51 p63 p75 p87 p99 p111 p131) 3 z = zr p0 p1 p2 z p4 p5 p6 p7 p8 p9 p12 p15 p16 p18 p19 p20 p21 p23 p24 p25 p26 p27 p39 p51 p63 p75 p87 p99 p111 p131 := by
  funext j
  by_cases h : j = 3
  · subst h; rfl
  · simp only [va_up, zr, h, if_false]
theorem ru_4 {p0 p1 p2 p3 p4 p5 p6 p7 p8 p9 p12 p15 p16 p18 p19 p20 p21 p23 p24 p25 p26 p27 p39 p51 p63 p75 p87 p99 p111 p131 z : Int32} : va_up (zr p0 p1 p2 p3 p4 p5 p6 p7 p8 p9 p12 p15 p16 p18 p19 p20 p21 p23 p24 p25 p26 p27 p39 p51 p63 p75 p87 p99 p111 p131) 4 z = zr p0 p1 p2 p3 z p5 p6 p7 p8 p9 p12 p15 p16 p18 p19 p20 p21 p23 p24 p25 p26 p27 p39 p51 p63 p75 p87 p99 p111 p131 := by
  funext j
  by_cases h : j = 4
  · subst h; rfl
  · simp only [va_up, zr, h, if_false]
theorem ru_5 {p0 p1 p2 p3 p4 p5 p6 p7 p8 p9 p12 p15 p16 p18 p19 p20 p21 p23 p24 p25 p26 p27 p39 p51 p63 p75 p87 p99 p111 p131 z : Int32} : va_up (zr p0 p1 p2 p3 p4 p5 p6 p7 p8 p9 p12 p15 p16 p18 p19 p20 p21 p23 p24 p25 p26 p27 p39 p51 p63 p75 p87 p99 p111 p131) 5 z = zr p0 p1 p2 p3 p4 z p6 p7 p8 p9 p12 p15 p16 p18 p19 p20 p21 p23 p24 p25 p26 p27 p39 p51 p63 p75 p87 p99 p111 p131 := by
  funext j
  by_cases h : j = 5
  · subst h; rfl
  · simp only [va_up, zr, h, if_false]
theorem ru_6 {p0 p1 p2 p3 p4 p5 p6 p7 p8 p9 p12 p15 p16 p18 p19 p20 p21 p23 p24 p25 p26 p27 p39 p51 p63 p75 p87 p99 p111 p131 z : Int32} : va_up (zr p0 p1 p2 p3 p4 p5 p6 p7 p8 p9 p12 p15 p16 p18 p19 p20 p21 p23 p24 p25 p26 p27 p39 p51 p63 p75 p87 p99 p111 p131) 6 z = zr p0 p1 p2 p3 p4 p5 z p7 p8 p9 p12 p15 p16 p18 p19 p20 p21 p23 p24 p25 p26 p27 p39 p51 p63 p75 p87 p99 p111 p131 := by
  funext j
  by_cases h : j = 6
  · subst h; rfl
  · simp only [va_up, zr, h, if_false]
theorem ru_7 {p0 p1 p2 p3 p4 p5 p6 p7 p8 p9 p12 p15 p16 p18 p19 p20 p21 p23 p24 p25 p26 p27 p39 p51 p63 p75 p87 p99 p111 p131 z : Int32} : va_up (zr p0 p1 p2 p3 p4 p5 p6 p7 p8 p9 p12 p15 p16 p18 p19 p20 p21 p23 p24 p25 p26 p27 p39 p51 p63 p75 p87 p99 p111 p131) 7 z = zr p0 p1 p2 p3 p4 p5 p6 z p8 p9 p12 p15 p16 p18 p19 p20 p21 p23 p24 p25 p26 p27 p39 p51 p63 p75 p87 p99 p111 p131 := by
  funext j
  by_cases h : j = 7
  · subst h; rfl
  · simp only [va_up, zr, h, if_false]
theorem ru_8 {p0 p1 p2 p3 p4 p5 p6 p7 p8 p9 p12 p15 p16 p18 p19 p20 p21 p23 p24 p25 p26 p27 p39 p51 p63 p75 p87 p99 p111 p131 z : Int32} : va_up (zr p0 p1 p2 p3 p4 p5 p6 p7 p8 p9 p12 p15 p16 p18 p19 p20 p21 p23 p24 p25 p26 p27 p39 p51 p63 p75 p87 p99 p111 p131) 8 z = zr p0 p1 p2 p3 p4 p5 p6 p7 z p9 p12 p15 p16 p18 p19 p20 p21 p23 p24 p25 p26 p27 p39 p51 p63 p75 p87 p99 p111 p131 := by
  funext j
  by_cases h : j = 8
  · subst h; rfl
  · simp only [va_up, zr, h, if_false]
theorem ru_9 {p0 p1 p2 p3 p4 p5 p6 p7 p8 p9 p12 p15 p16 p18 p19 p20 p21 p23 p24 p25 p26 p27 p39 p51 p63 p75 p87 p99 p111 p131 z : Int32} : va_up (zr p0 p1 p2 p3 p4 p5 p6 p7 p8 p9 p12 p15 p16 p18 p19 p20 p21 p23 p24 p25 p26 p27 p39 p51 p63 p75 p87 p99 p111 p131) 9 z = zr p0 p1 p2 p3 p4 p5 p6 p7 p8 z p12 p15 p16 p18 p19 p20 p21 p23 p24 p25 p26 p27 p39 p51 p63 p75 p87 p99 p111 p131 := by
  funext j
  by_cases h : j = 9
  · subst h; rfl
  · simp only [va_up, zr, h, if_false]
theorem ru_12 {p0 p1 p2 p3 p4 p5 p6 p7 p8 p9 p12 p15 p16 p18 p19 p20 p21 p23 p24 p25 p26 p27 p39 p51 p63 p75 p87 p99 p111 p131 z : Int32} : va_up (zr p0 p1 p2 p3 p4 p5 p6 p7 p8 p9 p12 p15 p16 p18 p19 p20 p21 p23 p24 p25 p26 p27 p39 p51 p63 p75 p87 p99 p111 p131) 12 z = zr p0 p1 p2 p3 p4 p5 p6 p7 p8 p9 z p15 p16 p18 p19 p20 p21 p23 p24 p25 p26 p27 p39 p51 p63 p75 p87 p99 p111 p131 := by
  funext j
  by_cases h : j = 12
  · subst h; rfl
  · simp only [va_up, zr, h, if_false]
theorem ru_15 {p0 p1 p2 p3 p4 p5 p6 p7 p8 p9 p12 p15 p16 p18 p19 p20 p21 p23 p24 p25 p26 p27 p39 p51 p63 p75 p87 p99 p111 p131 z : Int32} : va_up (zr p0 p1 p2 p3 p4 p5 p6 p7 p8 p9 p12 p15 p16 p18 p19 p20 p21 p23 p24 p25 p26 p27 p39 p51 p63 p75 p87 p99 p111 p131) 15 z = zr p0 p1 p2 p3 p4 p5 p6 p7 p8 p9 p12 z p16 p18 p19 p20 p21 p23 p24 p25 p26 p27 p39 p51 p63 p75 p87 p99 p111 p131 := by
  funext j
  by_cases h : j = 15
  · subst h; rfl
  · simp only [va_up, zr, h, if_false]
theorem ru_16 {p0 p1 p2 p3 p4 p5 p6 p7 p8 p9 p12 p15 p16 p18 p19 p20 p21 p23 p24 p25 p26 p27 p39 p51 p63 p75 p87 p99 p111 p131 z : Int32} : va_up (zr p0 p1 p2 p3 p4 p5 p6 p7 p8 p9 p12 p15 p16 p18 p19 p20 p21 p23 p24 p25 p26 p27 p39 p51 p63 p75 p87 p99 p111 p131) 16 z = zr p0 p1 p2 p3 p4 p5 p6 p7 p8 p9 p12 p15 z p18 p19 p20 p21 p23 p24 p25 p26 p27 p39 p51 p63 p75 p87 p99 p111 p131 := by
  funext j
  by_cases h : j = 16
  · subst h; rfl
  · simp only [va_up, zr, h, if_false]
theorem ru_18 {p0 p1 p2 p3 p4 p5 p6 p7 p8 p9 p12 p15 p16 p18 p19 p20 p21 p23 p24 p25 p26 p27 p39 p51 p63 p75 p87 p99 p111 p131 z : Int32} : va_up (zr p0 p1 p2 p3 p4 p5 p6 p7 p8 p9 p12 p15 p16 p18 p19 p20 p21 p23 p24 p25 p26 p27 p39 p51 p63 p75 p87 p99 p111 p131) 18 z = zr p0 p1 p2 p3 p4 p5 p6 p7 p8 p9 p12 p15 p16 z p19 p20 p21 p23 p24 p25 p26 p27 p39 p51 p63 p75 p87 p99 p111 p131 := by
  funext j
  by_cases h : j = 18
  · subst h; rfl
  · simp only [va_up, zr, h, if_false]
theorem ru_19 {p0 p1 p2 p3 p4 p5 p6 p7 p8 p9 p12 p15 p16 p18 p19 p20 p21 p23 p24 p25 p26 p27 p39 p51 p63 p75 p87 p99 p111 p131 z : Int32} : va_up (zr p0 p1 p2 p3 p4 p5 p6 p7 p8 p9 p12 p15 p16 p18 p19 p20 p21 p23 p24 p25 p26 p27 p39 p51 p63 p75 p87 p99 p111 p131) 19 z = zr p0 p1 p2 p3 p4 p5 p6 p7 p8 p9 p12 p15 p16 p18 z p20 p21 p23 p24 p25 p26 p27 p39 p51 p63 p75 p87 p99 p111 p131 := by
  funext j
  by_cases h : j = 19
  · subst h; rfl
  · simp only [va_up, zr, h, if_false]
theorem ru_20 {p0 p1 p2 p3 p4 p5 p6 p7 p8 p9 p12 p15 p16 p18 p19 p20 p21 p23 p24 p25 p26 p27 p39 p51 p63 p75 p87 p99 p111 p131 z : Int32} : va_up (zr p0 p1 p2 p3 p4 p5 p6 p7 p8 p9 p12 p15 p16 p18 p19 p20 p21 p23 p24 p25 p26 p27 p39 p51 p63 p75 p87 p99 p111 p131) 20 z = zr p0 p1 p2 p3 p4 p5 p6 p7 p8 p9 p12 p15 p16 p18 p19 z p21 p23 p24 p25 p26 p27 p39 p51 p63 p75 p87 p99 p111 p131 := by
  funext j
  by_cases h : j = 20
  · subst h; rfl
  · simp only [va_up, zr, h, if_false]
theorem ru_21 {p0 p1 p2 p3 p4 p5 p6 p7 p8 p9 p12 p15 p16 p18 p19 p20 p21 p23 p24 p25 p26 p27 p39 p51 p63 p75 p87 p99 p111 p131 z : Int32} : va_up (zr p0 p1 p2 p3 p4 p5 p6 p7 p8 p9 p12 p15 p16 p18 p19 p20 p21 p23 p24 p25 p26 p27 p39 p51 p63 p75 p87 p99 p111 p131) 21 z = zr p0 p1 p2 p3 p4 p5 p6 p7 p8 p9 p12 p15 p16 p18 p19 p20 z p23 p24 p25 p26 p27 p39 p51 p63 p75 p87 p99 p111 p131 := by
  funext j
  by_cases h : j = 21
  · subst h; rfl
  · simp only [va_up, zr, h, if_false]
theorem ru_23 {p0 p1 p2 p3 p4 p5 p6 p7 p8 p9 p12 p15 p16 p18 p19 p20 p21 p23 p24 p25 p26 p27 p39 p51 p63 p75 p87 p99 p111 p131 z : Int32} : va_up (zr p0 p1 p2 p3 p4 p5 p6 p7 p8 p9 p12 p15 p16 p18 p19 p20 p21 p23 p24 p25 p26 p27 p39 p51 p63 p75 p87 p99 p111 p131) 23 z = zr p0 p1 p2 p3 p4 p5 p6 p7 p8 p9 p12 p15 p16 p18 p19 p20 p21 z p24 p25 p26 p27 p39 p51 p63 p75 p87 p99 p111 p131 := by
  funext j
  by_cases h : j = 23
  · subst h; rfl
  · simp only [va_up, zr, h, if_false]
theorem ru_24 {p0 p1 p2 p3 p4 p5 p6 p7 p8 p9 p12 p15 p16 p18 p19 p20 p21 p23 p24 p25 p26 p27 p39 p51 p63 p75 p87 p99 p111 p131 z : Int32} : va_up (zr p0 p1 p2 p3 p4 p5 p6 p7 p8 p9 p12 p15 p16 p18 p19 p20 p21 p23 p24 p25 p26 p27 p39 p51 p63 p75 p87 p99 p111 p131) 24 z = zr p0 p1 p2 p3 p4 p5 p6 p7 p8 p9 p12 p15 p16 p18 p19 p20 p21 p23 z p25 p26 p27 p39 p51 p63 p75 p87 p99 p111 p131 := by
  funext j
  by_cases h : j = 24
  · subst h; rfl
  · simp only [va_up, zr, h, if_false]
theorem ru_25 {p0 p1 p2 p3 p4 p5 p6 p7 p8 p9 p12 p15 p16 p18 p19 p20 p21 p23 p24 p25 p26 p27 p39 p51 p63 p75 p87 p99 p111 p131 z : Int32} : va_up (zr p0 p1 p2 p3 p4 p5 p6 p7 p8 p9 p12 p15 p16 p18 p19 p20 p21 p23 p24 p25 p26 p27 p39 p51 p63 p75 p87 p99 p111 p131) 25 z = zr p0 p1 p2 p3 p4 p5 p6 p7 p8 p9 p12 p15 p16 p18 p19 p20 p21 p23 p24 z p26 p27 p39 p51 p63 p75 p87 p99 p111 p131 := by
  funext j
  by_cases h : j = 25
  · subst h; rfl
  · simp only [va_up, zr, h, if_false]
theorem ru_26 {p0 p1 p2 p3 p4 p5 p6 p7 p8 p9 p12 p15 p16 p18 p19 p20 p21 p23 p24 p25 p26 p27 p39 p51 p63 p75 p87 p99 p111 p131 z : Int32} : va_up (zr p0 p1 p2 p3 p4 p5 p6 p7 p8 p9 p12 p15 p16 p18 p19 p20 p21 p23 p24 p25 p26 p27 p39 p51 p63 p75 p87 p99 p111 p131) 26 z = zr p0 p1 p2 p3 p4 p5 p6 p7 p8 p9 p12 p15 p16 p18 p19 p20 p21 p23 p24 p25 z p27 p39 p51 p63 p75 p87 p99 p111 p131 := by
  funext j
  by_cases h : j = 26
  · subst h; rfl
  · simp only [va_up, zr, h, if_false]
theorem ru_27 {p0 p1 p2 p3 p4 p5 p6 p7 p8 p9 p12 p15 p16 p18 p19 p20 p21 p23 p24 p25 p26 p27 p39 p51 p63 p75 p87 p99 p111 p131 z : Int32} : va_up (zr p0 p1 p2 p3 p4 p5 p6 p7 p8 p9 p12 p15 p16 p18 p19 p20 p21 p23 p24 p25 p26 p27 p39 p51 p63 p75 p87 p99 p111 p131) 27 z = zr p0 p1 p2 p3 p4 p5 p6 p7 p8 p9 p12 p15 p16 p18 p19 p20 p21 p23 p24 p25 p26 z p39 p51 p63 p75 p87 p99 p111 p131 := by
  funext j
  by_cases h : j = 27
  · subst h; rfl
  · simp only [va_up, zr, h, if_false]
theorem ru_39 {p0 p1 p2 p3 p4 p5 p6 p7 p8 p9 p12 p15 p16 p18 p19 p20 p21 p23 p24 p25 p26 p27 p39 p51 p63 p75 p87 p99 p111 p131 z : Int32} : va_up (zr p0 p1 p2 p3 p4 p5 p6 p7 p8 p9 p12 p15 p16 p18 p19 p20 p21 p23 p24 p25 p26 p27 p39 p51 p63 p75 p87 p99 p111 p131) 39 z = zr p0 p1 p2 p3 p4 p5 p6 p7 p8 p9 p12 p15 p16 p18 p19 p20 p21 p23 p24 p25 p26 p27 z p51 p63 p75 p87 p99 p111 p131 := by
  funext j
  by_cases h : j = 39
  · subst h; rfl
  · simp only [va_up, zr, h, if_false]
theorem ru_51 {p0 p1 p2 p3 p4 p5 p6 p7 p8 p9 p12 p15 p16 p18 p19 p20 p21 p23 p24 p25 p26 p27 p39 p51 p63 p75 p87 p99 p111 p131 z : Int32} : va_up (zr p0 p1 p2 p3 p4 p5 p6 p7 p8 p9 p12 p15 p16 p18 p19 p20 p21 p23 p24 p25 p26 p27 p39 p51 p63 p75 p87 p99 p111 p131) 51 z = zr p0 p1 p2 p3 p4 p5 p6 p7 p8 p9 p12 p15 p16 p18 p19 p20 p21 p23 p24 p25 p26 p27 p39 z p63 p75 p87 p99 p111 p131 := by
  funext j
  by_cases h : j = 51
  · subst h; rfl
  · simp only [va_up, zr, h, if_false]
theorem ru_63 {p0 p1 p2 p3 p4 p5 p6 p7 p8 p9 p12 p15 p16 p18 p19 p20 p21 p23 p24 p25 p26 p27 p39 p51 p63 p75 p87 p99 p111 p131 z : Int32} : va_up (zr p0 p1 p2 p3 p4 p5 p6 p7 p8 p9 p12 p15 p16 p18 p19 p20 p21 p23 p24 p25 p26 p27 p39 p51 p63 p75 p87 p99 p111 p131) 63 z = zr p0 p1 p2 p3 p4 p5 p6 p7 p8 p9 p12 p15 p16 p18 p19 p20 p21 p23 p24 p25 p26 p27 p39 p51 z p75 p87 p99 p111 p131 := by
  funext j
  by_cases h : j = 63
  · subst h; rfl
  · simp only [va_up, zr, h, if_false]
theorem ru_75 {p0 p1 p2 p3 p4 p5 p6 p7 p8 p9 p12 p15 p16 p18 p19 p20 p21 p23 p24 p25 p26 p27 p39 p51 p63 p75 p87 p99 p111 p131 z : Int32} : va_up (zr p0 p1 p2 p3 p4 p5 p6 p7 p8 p9 p12 p15 p16 p18 p19 p20 p21 p23 p24 p25 p26 p27 p39 p51 p63 p75 p87 p99 p111 p131) 75 z = zr p0 p1 p2 p3 p4 p5 p6 p7 p8 p9 p12 p15 p16 p18 p19 p20 p21 p23 p24 p25 p26 p27 p39 p51 p63 z p87 p99 p111 p131 := by
  funext j
  by_cases h : j = 75
  · subst h; rfl
  · simp only [va_up, zr, h, if_false]
theorem ru_87 {p0 p1 p2 p3 p4 p5 p6 p7 p8 p9 p12 p15 p16 p18 p19 p20 p21 p23 p24 p25 p26 p27 p39 p51 p63 p75 p87 p99 p111 p131 z : Int32} : va_up (zr p0 p1 p2 p3 p4 p5 p6 p7 p8 p9 p12 p15 p16 p18 p19 p20 p21 p23 p24 p25 p26 p27 p39 p51 p63 p75 p87 p99 p111 p131) 87 z = zr p0 p1 p2 p3 p4 p5 p6 p7 p8 p9 p12 p15 p16 p18 p19 p20 p21 p23 p24 p25 p26 p27 p39 p51 p63 p75 z p99 p111 p131 := by
  funext j
  by_cases h : j = 87
  · subst h; rfl
  · simp only [va_up, zr, h, if_false]
theorem ru_99 {p0 p1 p2 p3 p4 p5 p6 p7 p8 p9 p12 p15 p16 p18 p19 p20 p21 p23 p24 p25 p26 p27 p39 p51 p63 p75 p87 p99 p111 p131 z : Int32} : va_up (zr p0 p1 p2 p3 p4 p5 p6 p7 p8 p9 p12 p15 p16 p18 p19 p20 p21 p23 p24 p25 p26 p27 p39 p51 p63 p75 p87 p99 p111 p131) 99 z = zr p0 p1 p2 p3 p4 p5 p6 p7 p8 p9 p12 p15 p16 p18 p19 p20 p21 p23 p24 p25 p26 p27 p39 p51 p63 p75 p87 z p111 p131 := by
  funext j
  by_cases h : j = 99
  · subst h; rfl
  · simp only [va_up, zr, h, if_false]
theorem ru_111 {p0 p1 p2 p3 p4 p5 p6 p7 p8 p9 p12 p15 p16 p18 p19 p20 p21 p23 p24 p25 p26 p27 p39 p51 p63 p75 p87 p99 p111 p131 z : Int32} : va_up (zr p0 p1 p2 p3 p4 p5 p6 p7 p8 p9 p12 p15 p16 p18 p19 p20 p21 p23 p24 p25 p26 p27 p39 p51 p63 p75 p87 p99 p111 p131) 111 z = zr p0 p1 p2 p3 p4 p5 p6 p7 p8 p9 p12 p15 p16 p18 p19 p20 p21 p23 p24 p25 p26 p27 p39 p51 p63 p75 p87 p99 z p131 := by
  funext j
  by_cases h : j = 111
  · subst h; rfl
  · simp only [va_up, zr, h, if_false]
theorem ru_131 {p0 p1 p2 p3 p4 p5 p6 p7 p8 p9 p12 p15 p16 p18 p19 p20 p21 p23 p24 p25 p26 p27 p39 p51 p63 p75 p87 p99 p111 p131 z : Int32} : va_up (zr p0 p1 p2 p3 p4 p5 p6 p7 p8 p9 p12 p15 p16 p18 p19 p20 p21 p23 p24 p25 p26 p27 p39 p51 p63 p75 p87 p99 p111 p131) 131 z = zr p0 p1 p2 p3 p4 p5 p6 p7 p8 p9 p12 p15 p16 p18 p19 p20 p21 p23 p24 p25 p26 p27 p39 p51 p63 p75 p87 p99 p111 z := by
  funext j
  by_cases h : j = 131
  · subst h; rfl
  · simp only [va_up, zr, h, if_false]
theorem ru_121 {p0 p1 p2 p3 p4 p5 p6 p7 p8 p9 p12 p15 p16 p18 p19 p20 p21 p23 p24 p25 p26 p27 p39 p51 p63 p75 p87 p99 p111 p131 : Int32} : va_up (zr p0 p1 p2 p3 p4 p5 p6 p7 p8 p9 p12 p15 p16 p18 p19 p20 p21 p23 p24 p25 p26 p27 p39 p51 p63 p75 p87 p99 p111 p131) 121 0 = zr p0 p1 p2 p3 p4 p5 p6 p7 p8 p9 p12 p15 p16 p18 p19 p20 p21 p23 p24 p25 p26 p27 p39 p51 p63 p75 p87 p99 p111 p131 := by
  funext j
  by_cases h : j = 121
  · subst h; rfl
  · simp only [va_up, h, if_false]
theorem rd_0 {p0 p1 p2 p3 p4 p5 p6 p7 p8 p9 p12 p15 p16 p18 p19 p20 p21 p23 p24 p25 p26 p27 p39 p51 p63 p75 p87 p99 p111 p131 : Int32} : zr p0 p1 p2 p3 p4 p5 p6 p7 p8 p9 p12 p15 p16 p18 p19 p20 p21 p23 p24 p25 p26 p27 p39 p51 p63 p75 p87 p99 p111 p131 0 = p0 := rfl
theorem rd_1 {p0 p1 p2 p3 p4 p5 p6 p7 p8 p9 p12 p15 p16 p18 p19 p20 p21 p23 p24 p25 p26 p27 p39 p51 p63 p75 p87 p99 p111 p131 : Int32} : zr p0 p1 p2 p3 p4 p5 p6 p7 p8 p9 p12 p15 p16 p18 p19 p20 p21 p23 p24 p25 p26 p27 p39 p51 p63 p75 p87 p99 p111 p131 1 = p1 := rfl
theorem rd_2 {p0 p1 p2 p3 p4 p5 p6 p7 p8 p9 p12 p15 p16 p18 p19 p20 p21 p23 p24 p25 p26 p27 p39 p51 p63 p75 p87 p99 p111 p131 : Int32} : zr p0 p1 p2 p3 p4 p5 p6 p7 p8 p9 p12 p15 p16 p18 p19 p20 p21 p23 p24 p25 p26 p27 p39 p51 p63 p75 p87 p99 p111 p131 2 = p2 := rfl
theorem rd_3 {p0 p1 p2 p3 p4 p5 p6 p7 p8 p9 p12 p15 p16 p18 p19 p20 p21 p23 p24 p25 p26 p27 p39 p51 p63 p75 p87 p99 p111 p131 : Int32} : zr p0 p1 p2 p3 p4 p5 p6 p7 p8 p9 p12 p15 p16 p18 p19 p20 p21 p23 p24 p25 p26 p27 p39 p51 p63 p75 p87 p99 p111 p131 3 = p3 := rfl
theorem rd_4 {p0 p1 p2 p3 p4 p5 p6 p7 p8 p9 p12 p15 p16 p18 p19 p20 p21 p23 p24 p25 p26 p27 p39 p51 p63 p75 p87 p99 p111 p131 : Int32} : zr p0 p1 p2 p3 p4 p5 p6 p7 p8 p9 p12 p15 p16 p18 p19 p20 p21 p23 p24 p25 p26 p27 p39 p51 p63 p75 p87 p99 p111 p131 4 = p4 := rfl
theorem rd_5 {p0 p1 p2 p3 p4 p5 p6 p7 p8 p9 p12 p15 p16 p18 p19 p20 p21 p23 p24 p25 p26 p27 p39 p51 p63 p75 p87 p99 p111 p131 : Int32} : zr p0 p1 p2 p3 p4 p5 p6 p7 p8 p9 p12 p15 p16 p18 p19 p20 p21 p23 p24 p25 p26 p27 p39 p51 p63 p75 p87 p99 p111 p131 5 = p5 := rfl
theorem rd_6 {p0 p1 p2 p3 p4 p5 p6 p7 p8 p9 p12 p15 p16 p18 p19 p20 p21 p23 p24 p25 p26 p27 p39 p51 p63 p75 p87 p99 p111 p131 : Int32} : zr p0 p1 p2 p3 p4 p5 p6 p7 p8 p9 p12 p15 p16 p18 p19 p20 p21 p23 p24 p25 p26 p27 p39 p51 p63 p75 p87 p99 p111 p131 6 = p6 := rfl
theorem rd_7 {p0 p1 p2 p3 p4 p5 p6 p7 p8 p9 p12 p15 p16 p18 p19 p20 p21 p23 p24 p25 p26 p27 p39 p51 p63 p75 p87 p99 p111 p131 : Int32} : zr p0 p1 p2 p3 p4 p5 p6 p7 p8 p9 p12 p15 p16 p18 p19 p20 p21 p23 p24 p25 p26 p27 p39 p51 p63 p75 p87 p99 p111 p131 7 = p7 := rfl
theorem rd_8 {p0 p1 p2 p3 p4 p5 p6 p7 p8 p9 p12 p15 p16 p18 p19 p20 p21 p23 p24 p25 p26 p27 p39 p51 p63 p75 p87 p99 p111 p131 : Int32} : zr p0 p1 p2 p3 p4 p5 p6 p7 p8 p9 p12 p15 p16 p18 p19 p20 p21 p23 p24 p25 p26 p27 p39 p51 p63 p75 p87 p99 p111 p131 8 = p8 := rfl
theorem rd_9 {p0 p1 p2 p3 p4 p5 p6 p7 p8 p9 p12 p15 p16 p18 p19 p20 p21 p23 p24 p25 p26 p27 p39 p51 p63 p75 p87 p99 p111 p131 : Int32} : zr p0 p1 p2 p3 p4 p5 p6 p7 p8 p9 p12 p15 p16 p18 p19 p20 p21 p23 p24 p25 p26 p27 p39 p51 p63 p75 p87 p99 p111 p131 9 = p9 := rfl
theorem rd_12 {p0 p1 p2 p3 p4 p5 p6 p7 p8 p9 p12 p15 p16 p18 p19 p20 p21 p23 p24 p25 p26 p27 p39 p51 p63 p75 p87 p99 p111 p131 : Int32} : zr p0 p1 p2 p3 p4 p5 p6 p7 p8 p9 p12 p15 p16 p18 p19 p20 p21 p23 p24 p25 p26 p27 p39 p51 p63 p75 p87 p99 p111 p131 12 = p12 := rfl
theorem rd_15 {p0 p1 p2 p3 p4 p5 p6 p7 p8 p9 p12 p15 p16 p18 p19 p20 p21 p23 p24 p25 p26 p27 p39 p51 p63 p75 p87 p99 p111 p131 : Int32} : zr p0 p1 p2 p3 p4 p5 p6 p7 p8 p9 p12 p15 p16 p18 p19 p20 p21 p23 p24 p25 p26 p27 p39 p51 p63 p75 p87 p99 p111 p131 15 = p15 := rfl
theorem rd_16 {p0 p1 p2 p3 p4 p5 p6 p7 p8 p9 p12 p15 p16 p18 p19 p20 p21 p23 p24 p25 p26 p27 p39 p51 p63 p75 p87 p99 p111 p131 : Int32} : zr p0 p1 p2 p3 p4 p5 p6 p7 p8 p9 p12 p15 p16 p18 p19 p20 p21 p23 p24 p25 p26 p27 p39 p51 p63 p75 p87 p99 p111 p131 16 = p16 := rfl
theorem rd_18 {p0 p1 p2 p3 p4 p5 p6 p7 p8 p9 p12 p15 p16 p18 p19 p20 p21 p23 p24 p25 p26 p27 p39 p51 p63 p75 p87 p99 p111 p131 : Int32} : zr p0 p1 p2 p3 p4 p5 p6 p7 p8 p9 p12 p15 p16 p18 p19 p20 p21 p23 p24 p25 p26 p27 p39 p51 p63 p75 p87 p99 p111 p131 18 = p18 := rfl
theorem rd_19 {p0 p1 p2 p3 p4 p5 p6 p7 p8 p9 p12 p15 p16 p18 p19 p20 p21 p23 p24 p25 p26 p27 p39 p51 p63 p75 p87 p99 p111 p131 : Int32} : zr p0 p1 p2 p3 p4 p5 p6 p7 p8 p9 p12 p15 p16 p18 p19 p20 p21 p23 p24 p25 p26 p27 p39 p51 p63 p75 p87 p99 p111 p131 19 = p19 := rfl
theorem rd_20 {p0 p1 p2 p3 p4 p5 p6 p7 p8 p9 p12 p15 p16 p18 p19 p20 p21 p23 p24 p25 p26 p27 p39 p51 p63 p75 p87 p99 p111 p131 : Int32} : zr p0 p1 p2 p3 p4 p5 p6 p7 p8 p9 p12 p15 p16 p18 p19 p20 p21 p23 p24 p25 p26 p27 p39 p51 p63 p75 p87 p99 p111 p131 20 = p20 := rfl
theorem rd_21 {p0 p1 p2 p3 p4 p5 p6 p7 p8 p9 p12 p15 p16 p18 p19 p20 p21 p23 p24 p25 p26 p27 p39 p51 p63 p75 p87 p99 p111 p131 : Int32} : zr p0 p1 p2 p3 p4 p5 p6 p7 p8 p9 p12 p15 p16 p18 p19 p20 p21 p23 p24 p25 p26 p27 p39 p51 p63 p75 p87 p99 p111 p131 21 = p21 := rfl
theorem rd_23 {p0 p1 p2 p3 p4 p5 p6 p7 p8 p9 p12 p15 p16 p18 p19 p20 p21 p23 p24 p25 p26 p27 p39 p51 p63 p75 p87 p99 p111 p131 : Int32} : zr p0 p1 p2 p3 p4 p5 p6 p7 p8 p9 p12 p15 p16 p18 p19 p20 p21 p23 p24 p25 p26 p27 p39 p51 p63 p75 p87 p99 p111 p131 23 = p23 := rfl
theorem rd_24 {p0 p1 p2 p3 p4 p5 p6 p7 p8 p9 p12 p15 p16 p18 p19 p20 p21 p23 p24 p25 p26 p27 p39 p51 p63 p75 p87 p99 p111 p131 : Int32} : zr p0 p1 p2 p3 p4 p5 p6 p7 p8 p9 p12 p15 p16 p18 p19 p20 p21 p23 p24 p25 p26 p27 p39 p51 p63 p75 p87 p99 p111 p131 24 = p24 := rfl
theorem rd_25 {p0 p1 p2 p3 p4 p5 p6 p7 p8 p9 p12 p15 p16 p18 p19 p20 p21 p23 p24 p25 p26 p27 p39 p51 p63 p75 p87 p99 p111 p131 : Int32} : zr p0 p1 p2 p3 p4 p5 p6 p7 p8 p9 p12 p15 p16 p18 p19 p20 p21 p23 p24 p25 p26 p27 p39 p51 p63 p75 p87 p99 p111 p131 25 = p25 := rfl
theorem rd_26 {p0 p1 p2 p3 p4 p5 p6 p7 p8 p9 p12 p15 p16 p18 p19 p20 p21 p23 p24 p25 p26 p27 p39 p51 p63 p75 p87 p99 p111 p131 : Int32} : zr p0 p1 p2 p3 p4 p5 p6 p7 p8 p9 p12 p15 p16 p18 p19 p20 p21 p23 p24 p25 p26 p27 p39 p51 p63 p75 p87 p99 p111 p131 26 = p26 := rfl
theorem rd_27 {p0 p1 p2 p3 p4 p5 p6 p7 p8 p9 p12 p15 p16 p18 p19 p20 p21 p23 p24 p25 p26 p27 p39 p51 p63 p75 p87 p99 p111 p131 : Int32} : zr p0 p1 p2 p3 p4 p5 p6 p7 p8 p9 p12 p15 p16 p18 p19 p20 p21 p23 p24 p25 p26 p27 p39 p51 p63 p75 p87 p99 p111 p131 27 = p27 := rfl
theorem rd_39 {p0 p1 p2 p3 p4 p5 p6 p7 p8 p9 p12 p15 p16 p18 p19 p20 p21 p23 p24 p25 p26 p27 p39 p51 p63 p75 p87 p99 p111 p131 : Int32} : zr p0 p1 p2 p3 p4 p5 p6 p7 p8 p9 p12 p15 p16 p18 p19 p20 p21 p23 p24 p25 p26 p27 p39 p51 p63 p75 p87 p99 p111 p131 39 = p39 := rfl
theorem rd_51 {p0 p1 p2 p3 p4 p5 p6 p7 p8 p9 p12 p15 p16 p18 p19 p20 p21 p23 p24 p25 p26 p27 p39 p51 p63 p75 p87 p99 p111 p131 : Int32} : zr p0 p1 p2 p3 p4 p5 p6 p7 p8 p9 p12 p15 p16 p18 p19 p20 p21 p23 p24 p25 p26 p27 p39 p51 p63 p75 p87 p99 p111 p131 51 = p51 := rfl
theorem rd_63 {p0 p1 p2 p3 p4 p5 p6 p7 p8 p9 p12 p15 p16 p18 p19 p20 p21 p23 p24 p25 p26 p27 p39 p51 p63 p75 p87 p99 p111 p131 : Int32} : zr p0 p1 p2 p3 p4 p5 p6 p7 p8 p9 p12 p15 p16 p18 p19 p20 p21 p23 p24 p25 p26 p27 p39 p51 p63 p75 p87 p99 p111 p131 63 = p63 := rfl
theorem rd_75 {p0 p1 p2 p3 p4 p5 p6 p7 p8 p9 p12 p15 p16 p18 p19 p20 p21 p23 p24 p25 p26 p27 p39 p51 p63 p75 p87 p99 p111 p131 : Int32} : zr p0 p1 p2 p3 p4 p5 p6 p7 p8 p9 p12 p15 p16 p18 p19 p20 p21 p23 p24 p25 p26 p27 p39 p51 p63 p75 p87 p99 p111 p131 75 = p75 := rfl
theorem rd_87 {p0 p1 p2 p3 p4 p5 p6 p7 p8 p9 p12 p15 p16 p18 p19 p20 p21 p23 p24 p25 p26 p27 p39 p51 p63 p75 p87 p99 p111 p131 : Int32} : zr p0 p1 p2 p3 p4 p5 p6 p7 p8 p9 p12 p15 p16 p18 p19 p20 p21 p23 p24 p25 p26 p27 p39 p51 p63 p75 p87 p99 p111 p131 87 = p87 := rfl
theorem rd_99 {p0 p1 p2 p3 p4 p5 p6 p7 p8 p9 p12 p15 p16 p18 p19 p20 p21 p23 p24 p25 p26 p27 p39 p51 p63 p75 p87 p99 p111 p131 : Int32} : zr p0 p1 p2 p3 p4 p5 p6 p7 p8 p9 p12 p15 p16 p18 p19 p20 p21 p23 p24 p25 p26 p27 p39 p51 p63 p75 p87 p99 p111 p131 99 = p99 := rfl
theorem rd_111 {p0 p1 p2 p3 p4 p5 p6 p7 p8 p9 p12 p15 p16 p18 p19 p20 p21 p23 p24 p25 p26 p27 p39 p51 p63 p75 p87 p99 p111 p131 : Int32} : zr p0 p1 p2 p3 p4 p5 p6 p7 p8 p9 p12 p15 p16 p18 p19 p20 p21 p23 p24 p25 p26 p27 p39 p51 p63 p75 p87 p99 p111 p131 111 = p111 := rfl
theorem rd_131 {p0 p1 p2 p3 p4 p5 p6 p7 p8 p9 p12 p15 p16 p18 p19 p20 p21 p23 p24 p25 p26 p27 p39 p51 p63 p75 p87 p99 p111 p131 : Int32} : zr p0 p1 p2 p3 p4 p5 p6 p7 p8 p9 p12 p15 p16 p18 p19 p20 p21 p23 p24 p25 p26 p27 p39 p51 p63 p75 p87 p99 p111 p131 131 = p131 := rfl
theorem rd_17 {p0 p1 p2 p3 p4 p5 p6 p7 p8 p9 p12 p15 p16 p18 p19 p20 p21 p23 p24 p25 p26 p27 p39 p51 p63 p75 p87 p99 p111 p131 : Int32} : zr p0 p1 p2 p3 p4 p5 p6 p7 p8 p9 p12 p15 p16 p18 p19 p20 p21 p23 p24 p25 p26 p27 p39 p51 p63 p75 p87 p99 p111 p131 17 = 400 := rfl
theorem rd_10 {p0 p1 p2 p3 p4 p5 p6 p7 p8 p9 p12 p15 p16 p18 p19 p20 p21 p23 p24 p25 p26 p27 p39 p51 p63 p75 p87 p99 p111 p131 : Int32} : zr p0 p1 p2 p3 p4 p5 p6 p7 p8 p9 p12 p15 p16 p18 p19 p20 p21 p23 p24 p25 p26 p27 p39 p51 p63 p75 p87 p99 p111 p131 10 = 0 := rfl
theorem rd_11 {p0 p1 p2 p3 p4 p5 p6 p7 p8 p9 p12 p15 p16 p18 p19 p20 p21 p23 p24 p25 p26 p27 p39 p51 p63 p75 p87 p99 p111 p131 : Int32} : zr p0 p1 p2 p3 p4 p5 p6 p7 p8 p9 p12 p15 p16 p18 p19 p20 p21 p23 p24 p25 p26 p27 p39 p51 p63 p75 p87 p99 p111 p131 11 = 0 := rfl
theorem rd_13 {p0 p1 p2 p3 p4 p5 p6 p7 p8 p9 p12 p15 p16 p18 p19 p20 p21 p23 p24 p25 p26 p27 p39 p51 p63 p75 p87 p99 p111 p131 : Int32} : zr p0 p1 p2 p3 p4 p5 p6 p7 p8 p9 p12 p15 p16 p18 p19 p20 p21 p23 p24 p25 p26 p27 p39 p51 p63 p75 p87 p99 p111 p131 13 = 0 := rfl
theorem rd_14 {p0 p1 p2 p3 p4 p5 p6 p7 p8 p9 p12 p15 p16 p18 p19 p20 p21 p23 p24 p25 p26 p27 p39 p51 p63 p75 p87 p99 p111 p131 : Int32} : zr p0 p1 p2 p3 p4 p5 p6 p7 p8 p9 p12 p15 p16 p18 p19 p20 p21 p23 p24 p25 p26 p27 p39 p51 p63 p75 p87 p99 p111 p131 14 = 0 := rfl
theorem rd_22 {p0 p1 p2 p3 p4 p5 p6 p7 p8 p9 p12 p15 p16 p18 p19 p20 p21 p23 p24 p25 p26 p27 p39 p51 p63 p75 p87 p99 p111 p131 : Int32} : zr p0 p1 p2 p3 p4 p5 p6 p7 p8 p9 p12 p15 p16 p18 p19 p20 p21 p23 p24 p25 p26 p27 p39 p51 p63 p75 p87 p99 p111 p131 22 = 0 := rfl
theorem rd_121 {p0 p1 p2 p3 p4 p5 p6 p7 p8 p9 p12 p15 p16 p18 p19 p20 p21 p23 p24 p25 p26 p27 p39 p51 p63 p75 p87 p99 p111 p131 : Int32} : zr p0 p1 p2 p3 p4 p5 p6 p7 p8 p9 p12 p15 p16 p18 p19 p20 p21 p23 p24 p25 p26 p27 p39 p51 p63 p75 p87 p99 p111 p131 121 = 0 := rfl
theorem g0_zr : md_g0 = zr 0 0 1 0 0 0 0 0 0 0 0 400 400 0 0 0 0 0 0 0 0 0 0 0 0 0 0 0 0 0 := by
  funext j
  unfold md_g0
  by_cases h0 : j = 0
  · subst h0; rfl
  by_cases h1 : j = 1
  · subst h1; rfl
  by_cases h2 : j = 2
  · subst h2; rfl
  by_cases h3 : j = 3
  · subst h3; rfl
  by_cases h4 : j = 4
  · subst h4; rfl
  by_cases h5 : j = 5
  · subst h5; rfl
  by_cases h6 : j = 6
  · subst h6; rfl
  by_cases h7 : j = 7
  · subst h7; rfl
  by_cases h8 : j = 8
  · subst h8; rfl
  by_cases h9 : j = 9
  · subst h9; rfl
  by_cases h12 : j = 12
  · subst h12; rfl
  by_cases h15 : j = 15
  · subst h15; rfl
  by_cases h16 : j = 16
  · subst h16; rfl
  by_cases h18 : j = 18
  · subst h18; rfl
  by_cases h19 : j = 19
  · subst h19; rfl
  by_cases h20 : j = 20
  · subst h20; rfl
  by_cases h21 : j = 21
  · subst h21; rfl
  by_cases h23 : j = 23
  · subst h23; rfl
  by_cases h24 : j = 24
  · subst h24; rfl
  by_cases h25 : j = 25
  · subst h25; rfl
  by_cases h26 : j = 26
  · subst h26; rfl
  by_cases h27 : j = 27
  · subst h27; rfl
  by_cases h39 : j = 39
  · subst h39; rfl
  by_cases h51 : j = 51
  · subst h51; rfl
  by_cases h63 : j = 63
  · subst h63; rfl
  by_cases h75 : j = 75
  · subst h75; rfl
  by_cases h87 : j = 87
  · subst h87; rfl
  by_cases h99 : j = 99
  · subst h99; rfl
  by_cases h111 : j = 111
  · subst h111; rfl
  by_cases h131 : j = 131
  · subst h131; rfl
  by_cases h17 : j = 17
  · subst h17; rfl
  simp only [zr, h0, h1, h2, h3, h4, h5, h6, h7, h8, h9, h12, h15, h16, h18, h19, h20, h21, h23, h24, h25, h26, h27, h39, h51, h63, h75, h87, h99, h111, h131, h17, if_false]
  rw [if_neg (by omega)]
theorem zs_p1 {g : md_R} (n : md_n g = 1) (h : g 87 ≠ 0) : md_step g = md_c1 (md_c1 (md_c1 (va_up (va_up g 0 (g 0 + 1)) 75 (g 75 + (1 - g 99))) 0) 1) 2 := by
  unfold md_step
  rw [n]
  have e : md_a1 (va_up g 0 (g 0 + 1)) 0 = va_up g 0 (g 0 + 1) := if_neg h
  show md_c1 (md_c1 (md_c1 (md_w1 (md_a1 (va_up g 0 (g 0 + 1)) 0) 0) 0) 1) 2 = _
  rw [e]
  rfl
theorem zs_pA {g : md_R} (n : md_n g = 1) (h : g 87 = 0) : md_step g = md_c1 (md_c1 (md_c1 (md_w1 (md_as (va_up g 0 (g 0 + 1)) 0) 0) 0) 1) 2 := by
  unfold md_step
  rw [n]
  have e : md_a1 (va_up g 0 (g 0 + 1)) 0 = md_as (va_up g 0 (g 0 + 1)) 0 := if_pos h
  show md_c1 (md_c1 (md_c1 (md_w1 (md_a1 (va_up g 0 (g 0 + 1)) 0) 0) 0) 1) 2 = _
  rw [e]
theorem zs_p0 {g : md_R} (n : md_n g = 0) : md_step g = md_c1 (md_c1 (md_c1 (va_up g 0 (g 0 + 1)) 0) 1) 2 := by
  unfold md_step
  rw [n]
  rfl
theorem c_out {g : md_R} {c : Nat} (h : g (21 + c) ≠ 0) : md_c1 g c = g := if_neg h
theorem c_door {g : md_R} {c : Nat} (h : g (21 + c) = 0) (hd : 0 < g (18 + c)) : md_c1 g c = va_up g (18 + c) (g (18 + c) - 1) := by
  unfold md_c1 md_ac
  rw [if_pos h, if_pos hd]
theorem c_move {g : md_R} {c : Nat} (h : g (21 + c) = 0) (hd : ¬ 0 < g (18 + c)) (hs : md_st g c (g (9 + c)) = false) : md_c1 g c = md_mv g c := by
  unfold md_c1 md_ac
  rw [if_pos h, if_neg hd, if_neg (by rw [hs]; decide)]
theorem c_stop {g : md_R} {c : Nat} (h : g (21 + c) = 0) (hd : ¬ 0 < g (18 + c)) (hs : md_st g c (g (9 + c)) = true) : md_c1 g c = md_bo (md_al c (md_n g) 0 (md_op g c)) c := by
  unfold md_c1 md_ac
  rw [if_pos h, if_neg hd, if_pos hs]
theorem mv_0 {g : md_R} {c : Nat} (h : md_ch g c = 0) (hd : g (12 + c) = 0) : md_mv g c = g := by
  unfold md_mv
  rw [h]
  show (if (0 : Int32) = 1 then _ else if (0 : Int32) = -1 then _ else va_up (va_up g (12 + c) 0) (9 + c) (g (9 + c) + 0)) = g
  rw [if_neg (by decide), if_neg (by decide), Int32.add_zero, ← hd, up_id, up_id]
theorem mv_u {g : md_R} {c : Nat} (h : md_ch g c = 1) (hl : md_ld g c = 0) : md_mv g c = va_up (va_up (va_up (va_up (va_up g (12 + c) 1) (9 + c) (g (9 + c) + 1)) (24 + c) (g (24 + c) + 2)) 8 (g 8 + 0)) 5 (g 5 + 1) := by
  unfold md_mv
  rw [h]
  show (if (1 : Int32) = 1 then _ else _) = _
  rw [if_pos rfl, hl]
  have e1 : va_up (va_up g (12 + c) 1) (9 + c) (g (9 + c) + 1) (24 + c) = g (24 + c) := by rw [up_n _ _ (by omega), up_n _ _ (by omega)]
  show va_up (va_up (va_up (va_up (va_up g (12 + c) 1) (9 + c) (g (9 + c) + 1)) (24 + c) (g (24 + c) + (2 + 0 / 100))) 8 (g 8 + 0 / 100)) 5 (g 5 + 1) = _
  rfl
theorem mv_d {g : md_R} {c : Nat} (h : md_ch g c = -1) : md_mv g c = va_up (va_up (va_up (va_up g (12 + c) (-1)) (9 + c) (g (9 + c) + -1)) (24 + c) (g (24 + c) + 1)) 6 (g 6 + 1) := by
  unfold md_mv
  rw [h]
  show (if (-1 : Int32) = 1 then _ else if (-1 : Int32) = -1 then _ else _) = _
  rw [if_neg (by decide), if_pos rfl]
theorem stx_1 {g : md_R} {c : Nat} {x : Int32} (n : md_n g = 1) : md_st g c x = md_stf g c x 0 := by
  unfold md_st
  rw [n]
  show (false || md_stf g c x 0) = _
  rfl
theorem stx_N {g : md_R} {c : Nat} {x : Int32} (n : md_n g = 1) (h : (g 87 == i3 c + 1) = false) : md_st g c x = false := by
  rw [stx_1 n]
  show (((g 99 == 1) && (g 87 == i3 c + 1)) && (g 51 == x) || ((g 99 == 0) && (g 87 == i3 c + 1)) && (g 39 == x)) = false
  rw [h, Bool.and_false, Bool.and_false, Bool.false_and, Bool.false_and]
  rfl
theorem stx_0 {g : md_R} {c : Nat} {x : Int32} (n : md_n g = 0) : md_st g c x = false := by
  unfold md_st
  rw [n]
  rfl
theorem stx_W {g : md_R} {c : Nat} {x t : Int32} (n : md_n g = 1) (h : (g 87 == i3 c + 1) = true) (h9 : g 99 = 0) (ht : g 39 = t) : md_st g c x = (t == x) := by
  subst ht
  rw [stx_1 n]
  show (((g 99 == 1) && (g 87 == i3 c + 1)) && (g 51 == x) || ((g 99 == 0) && (g 87 == i3 c + 1)) && (g 39 == x)) = _
  rw [h, h9, show ((0 : Int32) == 1) = false by decide, show ((0 : Int32) == 0) = true by decide]
  generalize (g 39 == x) = b
  cases b <;> rfl
theorem stx_I {g : md_R} {c : Nat} {x t : Int32} (n : md_n g = 1) (h : (g 87 == i3 c + 1) = true) (h9 : g 99 = 1) (ht : g 51 = t) : md_st g c x = (t == x) := by
  subst ht
  rw [stx_1 n]
  show (((g 99 == 1) && (g 87 == i3 c + 1)) && (g 51 == x) || ((g 99 == 0) && (g 87 == i3 c + 1)) && (g 39 == x)) = _
  rw [h, h9, show ((1 : Int32) == 1) = true by decide, show ((1 : Int32) == 0) = false by decide]
  generalize (g 51 == x) = b
  cases b <;> rfl
def nR (t f r : Int32) : Nat := md_go (fun d => md_fl (f + r * i3 d) && (t == f + r * i3 d)) 9 1
def cH (t f d : Int32) : Int32 := if nR t f 1 = 0 ∨ nR t f (-1) = 0 then (if 0 < nR t f 1 then 1 else if 0 < nR t f (-1) then -1 else 0) else if d ≠ 0 then d else if nR t f 1 ≤ nR t f (-1) then 1 else -1
theorem ch_t {g : md_R} {c : Nat} {t : Int32} (h : ∀ x, md_st g c x = (t == x)) : md_ch g c = cH t (g (9 + c)) (g (12 + c)) := by
  have e : ∀ r, md_nr g c r = nR t (g (9 + c)) r := fun r => by
    unfold md_nr nR
    congr 1
    funext d
    unfold md_hit
    rw [h]
  unfold md_ch cH
  rw [e, e]
theorem ch_0 {g : md_R} {c : Nat} (h : ∀ x, md_st g c x = false) : md_ch g c = 0 := by
  have e : ∀ r, md_nr g c r = 0 := fun r => by
    unfold md_nr
    rw [show md_hit g c r = (fun _ => false) from funext (fun d => by unfold md_hit; rw [h, Bool.and_false])]
    rfl
  unfold md_ch
  rw [e, e]
  rfl
theorem c_idle {g : md_R} {c : Nat} (h : g (21 + c) = 0) (hd : g (18 + c) = 0) (hr : g (12 + c) = 0) (hs : ∀ x, md_st g c x = false) : md_c1 g c = g := by
  rw [c_move h (by rw [hd]; decide) (hs _), mv_0 (ch_0 hs) hr]
theorem op_e {g : md_R} {c : Nat} : md_op g c = va_up (va_up (va_up g (18 + c) 2) (24 + c) (g (24 + c) + 1)) 7 (g 7 + 1) := rfl
theorem al_n {g : md_R} {c : Nat} (h : md_in g 0 c = false) : md_al c 1 0 g = g := by
  show (if md_in g 0 c && g (51 + 0) == g (9 + c) then _ else md_al c 0 1 g) = g
  rw [h]
  rfl
theorem al_y {g : md_R} {c : Nat} (h : md_in g 0 c = true) (h2 : (g 51 == g (9 + c)) = true) : md_al c 1 0 g = md_dr (md_lg g 0 c) 0 := by
  show (if md_in g 0 c && g (51 + 0) == g (9 + c) then _ else md_al c 0 1 g) = _
  rw [if_pos (by rw [h]; exact h2)]
  rfl
theorem bo_y {g : md_R} {c : Nat} (n : md_n g = 1) (h : md_aw g 0 c = true) (h2 : (g 39 == g (9 + c)) = true) (h3 : md_ld g c + g 63 ≤ g (15 + c)) : md_bo g c = va_up (va_up g 99 1) 87 (i3 c + 1) := by
  unfold md_bo
  rw [n]
  show md_bd c g 0 = _
  unfold md_bd
  rw [if_pos (by rw [h]; exact h2), if_pos h3]
theorem bo_n {g : md_R} {c : Nat} (n : md_n g = 1) (h : md_aw g 0 c = true) (h2 : (g 39 == g (9 + c)) = true) (h3 : ¬ md_ld g c + g 63 ≤ g (15 + c)) : md_bo g c = va_up (va_up g 99 0) 87 0 := by
  unfold md_bo
  rw [n]
  show md_bd c g 0 = _
  unfold md_bd
  rw [if_pos (by rw [h]; exact h2), if_neg h3]
theorem bo_0 {g : md_R} {c : Nat} (n : md_n g = 0) : md_bo g c = g := by
  unfold md_bo
  rw [n]
  rfl
theorem so_0 {g : md_R} {c : Nat} (n : md_n g = 0) : md_so g c = va_up g (21 + c) 1 := by
  unfold md_so
  rw [n]
  rfl
theorem so_1 {g : md_R} {c : Nat} (n : md_n g = 1) (h : md_aw g 0 c = false) : md_so g c = va_up g (21 + c) 1 := by
  unfold md_so
  rw [n]
  show va_up (md_r1 c g 0) (21 + c) 1 = _
  unfold md_r1
  rw [h]
  rfl
theorem ad_0 {g : md_R} {s e v b : Int32} (n : md_n g = 0) (hb : md_be (va_up (va_up (va_up (va_up (va_up (va_up (va_up (va_up (va_up (va_up g 27 (g 2)) 39 s) 51 e) 63 v) 75 0) 99 0) 87 0) 1 (g 1 + 1)) 2 (g 2 + 1)) 87 0) s v 3 + 1 = b) : md_ad g s e v = va_up (va_up (va_up (va_up (va_up (va_up (va_up (va_up (va_up (va_up g 27 (g 2)) 39 s) 51 e) 63 v) 75 0) 99 0) 87 0) 1 (g 1 + 1)) 2 (g 2 + 1)) 87 b := by
  unfold md_ad
  rw [n, ← hb]
  rfl
theorem ld_1 {g : md_R} {c : Nat} (n : md_n g = 1) (h : g 99 = 0) : md_ld g c = 0 := by
  unfold md_ld
  rw [n]
  show (0 : Int32) + md_ldf g c 0 = 0
  unfold md_ldf
  rw [md_in_no (p := 0) h]
  rfl
theorem in_y {g : md_R} {c : Nat} (h : g 99 = 1) (h2 : (g 87 == i3 c + 1) = true) : md_in g 0 c = true := by
  show (g 99 == 1 && g 87 == i3 c + 1) = true
  rw [h, h2]
  rfl
theorem aw_y {g : md_R} {c : Nat} (h : g 99 = 0) (h2 : (g 87 == i3 c + 1) = true) : md_aw g 0 c = true := by
  show (g 99 == 0 && g 87 == i3 c + 1) = true
  rw [h, h2]
  rfl
theorem aw_n {g : md_R} {c : Nat} (h : g 99 = 1) : md_aw g 0 c = false := by
  show (g 99 == 0 && g 87 == i3 c + 1) = false
  rw [h, show ((1 : Int32) == 0) = false by decide, Bool.false_and]
theorem nr1 {g : md_R} (h : g 1 = 1) : md_n g = 1 := by
  unfold md_n
  rw [h]
  decide
theorem nr0 {g : md_R} (h : g 1 = 0) : md_n g = 0 := by
  unfold md_n
  rw [h]
  decide
theorem dP_z {p0 p1 p2 p3 p4 p5 p6 p7 p8 p9 p12 p15 p16 p18 p19 p20 p21 p23 p24 p25 p26 p27 p39 p51 p63 p75 p87 p99 p111 p131 : Int32} : md_dP (zr p0 p1 p2 p3 p4 p5 p6 p7 p8 p9 p12 p15 p16 p18 p19 p20 p21 p23 p24 p25 p26 p27 p39 p51 p63 p75 p87 p99 p111 p131) 0 111 = zr p0 p1 p2 p3 p4 p5 p6 p7 p8 p9 p12 p15 p16 p18 p19 p20 p21 p23 p24 p25 p26 0 0 0 0 0 0 0 p111 p131 := by
  funext j
  unfold md_dP
  by_cases a : 27 ≤ j ∧ j < 111 ∧ 0 ≤ (j - 27) % 12
  · rw [if_pos a]
    have z : zr p0 p1 p2 p3 p4 p5 p6 p7 p8 p9 p12 p15 p16 p18 p19 p20 p21 p23 p24 p25 p26 0 0 0 0 0 0 0 p111 p131 j = 0 := by
      by_cases h27 : j = 27
      · subst h27; rfl
      by_cases h39 : j = 39
      · subst h39; rfl
      by_cases h51 : j = 51
      · subst h51; rfl
      by_cases h63 : j = 63
      · subst h63; rfl
      by_cases h75 : j = 75
      · subst h75; rfl
      by_cases h87 : j = 87
      · subst h87; rfl
      by_cases h99 : j = 99
      · subst h99; rfl
      simp only [zr, h27, h39, h51, h63, h75, h87, h99, if_false, show ¬ j = 0 by omega, show ¬ j = 1 by omega, show ¬ j = 2 by omega, show ¬ j = 3 by omega, show ¬ j = 4 by omega, show ¬ j = 5 by omega, show ¬ j = 6 by omega, show ¬ j = 7 by omega, show ¬ j = 8 by omega, show ¬ j = 9 by omega, show ¬ j = 12 by omega, show ¬ j = 15 by omega, show ¬ j = 16 by omega, show ¬ j = 18 by omega, show ¬ j = 19 by omega, show ¬ j = 20 by omega, show ¬ j = 21 by omega, show ¬ j = 23 by omega, show ¬ j = 24 by omega, show ¬ j = 25 by omega, show ¬ j = 26 by omega, show ¬ j = 111 by omega, show ¬ j = 131 by omega, show ¬ j = 17 by omega]
    rw [z]
    split
    · simp only [zr, if_false, show ¬ j + 1 = 0 by omega, show ¬ j + 1 = 1 by omega, show ¬ j + 1 = 2 by omega, show ¬ j + 1 = 3 by omega, show ¬ j + 1 = 4 by omega, show ¬ j + 1 = 5 by omega, show ¬ j + 1 = 6 by omega, show ¬ j + 1 = 7 by omega, show ¬ j + 1 = 8 by omega, show ¬ j + 1 = 9 by omega, show ¬ j + 1 = 12 by omega, show ¬ j + 1 = 15 by omega, show ¬ j + 1 = 16 by omega, show ¬ j + 1 = 18 by omega, show ¬ j + 1 = 19 by omega, show ¬ j + 1 = 20 by omega, show ¬ j + 1 = 21 by omega, show ¬ j + 1 = 23 by omega, show ¬ j + 1 = 24 by omega, show ¬ j + 1 = 25 by omega, show ¬ j + 1 = 26 by omega, show ¬ j + 1 = 27 by omega, show ¬ j + 1 = 39 by omega, show ¬ j + 1 = 51 by omega, show ¬ j + 1 = 63 by omega, show ¬ j + 1 = 75 by omega, show ¬ j + 1 = 87 by omega, show ¬ j + 1 = 99 by omega, show ¬ j + 1 = 111 by omega, show ¬ j + 1 = 131 by omega, show ¬ j + 1 = 17 by omega]
    · rfl
  · rw [if_neg a]
    by_cases h0 : j = 0
    · subst h0; rfl
    by_cases h1 : j = 1
    · subst h1; rfl
    by_cases h2 : j = 2
    · subst h2; rfl
    by_cases h3 : j = 3
    · subst h3; rfl
    by_cases h4 : j = 4
    · subst h4; rfl
    by_cases h5 : j = 5
    · subst h5; rfl
    by_cases h6 : j = 6
    · subst h6; rfl
    by_cases h7 : j = 7
    · subst h7; rfl
    by_cases h8 : j = 8
    · subst h8; rfl
    by_cases h9 : j = 9
    · subst h9; rfl
    by_cases h12 : j = 12
    · subst h12; rfl
    by_cases h15 : j = 15
    · subst h15; rfl
    by_cases h16 : j = 16
    · subst h16; rfl
    by_cases h18 : j = 18
    · subst h18; rfl
    by_cases h19 : j = 19
    · subst h19; rfl
    by_cases h20 : j = 20
    · subst h20; rfl
    by_cases h21 : j = 21
    · subst h21; rfl
    by_cases h23 : j = 23
    · subst h23; rfl
    by_cases h24 : j = 24
    · subst h24; rfl
    by_cases h25 : j = 25
    · subst h25; rfl
    by_cases h26 : j = 26
    · subst h26; rfl
    by_cases h111 : j = 111
    · subst h111; rfl
    by_cases h131 : j = 131
    · subst h131; rfl
    by_cases h17 : j = 17
    · subst h17; rfl
    simp only [zr, if_false, h0, h1, h2, h3, h4, h5, h6, h7, h8, h9, h12, h15, h16, h18, h19, h20, h21, h23, h24, h25, h26, h111, h131, h17, show ¬ j = 27 by omega, show ¬ j = 39 by omega, show ¬ j = 51 by omega, show ¬ j = 63 by omega, show ¬ j = 75 by omega, show ¬ j = 87 by omega, show ¬ j = 99 by omega]
