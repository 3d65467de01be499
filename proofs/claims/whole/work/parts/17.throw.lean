/-! the throw of a new exception with a text, in one -/
def exC : List String := ["java/lang/RuntimeException", "java/lang/Exception"]
set_option maxRecDepth 100000 in
theorem thw_0 : ∀ w ∈ (vx_atS "Openbook" 99 "java/lang/IndexOutOfBoundsException" exC).filter (fun w => !goodWord w), w ∈ ([.castable "java/lang/IndexOutOfBoundsException" "java/lang/IndexOutOfBoundsException"] : List Cond) := by decide +kernel
