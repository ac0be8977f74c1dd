/-! ===== what is thrown: the words ===== -/
def thN : List String := ["java/lang/RuntimeException", "java/lang/Exception"]
def thW : List Cond := vx_atS "PartedPension" 120 "java/util/NoSuchElementException" thN
theorem thW_g : thW.filter (fun w => !goodWord w) = [] := by decide +kernel
