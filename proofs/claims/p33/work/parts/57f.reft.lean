/-! PART 57f: the reference: villages tried, holdings told -/
def dyR (v : Vg) : Int64 := sumL (dyF v) (2 ^ vN v)
