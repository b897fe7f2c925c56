/-! ===== throw new NoSuchElementException() ===== -/
def vNSE : String := "java/util/NoSuchElementException"
def vNms : List String := ["java/lang/RuntimeException", "java/lang/Exception"]
def vAtw : List Cond := Cond.classLink RX11 148 vNSE :: Cond.initialized vNSE :: vx_at0 RX11 150 vNSE vNms
set_option maxRecDepth 100000 in
theorem vAtw_ot : ∀ w ∈ vAtw, vx_ot w = true := by decide +kernel
