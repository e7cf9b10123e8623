/-! what a throw of the class's own needs of the tables -/
def zNm : List String := ["java/lang/RuntimeException", "java/lang/Exception"]
theorem zat_i : ((vx_atS RX8 267 "java/lang/IndexOutOfBoundsException" zNm).filter (fun w => !goodWord w)).all (fun w => zNw.contains w) = true := by decide +kernel
theorem zat_i2 : ((vx_atS RX8 267 "java/lang/IndexOutOfBoundsException" zNm).filter goodWord).all (fun w => zU.contains w) = true := by decide +kernel
theorem zat_i3 : (Cond.initialized "java/lang/IndexOutOfBoundsException") ∈ zU := by decide +kernel
theorem zat_i4 : (Cond.classLink RX8 263 "java/lang/IndexOutOfBoundsException") ∈ zU := by decide +kernel
theorem zat_i5 : (Cond.classLink RX8 263 "java/lang/IndexOutOfBoundsException" :: Cond.initialized "java/lang/IndexOutOfBoundsException" :: vx_atS RX8 267 "java/lang/IndexOutOfBoundsException" zNm).all vx_ot = true := by decide +kernel
