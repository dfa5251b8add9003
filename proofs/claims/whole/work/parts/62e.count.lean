def bs1 (q : Int64) : Int64 := q - (((Int64.toUInt64 q >>> ((Int32.toInt64 (1 : Int32)).toUInt64 &&& Int64.toUInt64 63)).toInt64) &&& (6148914691236517205 : Int64))
def bs2 (q : Int64) : Int64 := (q &&& (3689348814741910323 : Int64)) + (((Int64.toUInt64 q >>> ((Int32.toInt64 (2 : Int32)).toUInt64 &&& Int64.toUInt64 63)).toInt64) &&& (3689348814741910323 : Int64))
def bs3 (q : Int64) : Int64 := (q + ((Int64.toUInt64 q >>> ((Int32.toInt64 (4 : Int32)).toUInt64 &&& Int64.toUInt64 63)).toInt64)) &&& (1085102592571150095 : Int64)
def bs4 (q : Int64) : Int64 := q + ((Int64.toUInt64 q >>> ((Int32.toInt64 (8 : Int32)).toUInt64 &&& Int64.toUInt64 63)).toInt64)
def bs5 (q : Int64) : Int64 := q + ((Int64.toUInt64 q >>> ((Int32.toInt64 (16 : Int32)).toUInt64 &&& Int64.toUInt64 63)).toInt64)
def bs6 (q : Int64) : Int64 := q + ((Int64.toUInt64 q >>> ((Int32.toInt64 (32 : Int32)).toUInt64 &&& Int64.toUInt64 63)).toInt64)
theorem bc64_bs (q : Int64) : bc64 q = (Int64.toInt32 (bs6 (bs5 (bs4 (bs3 (bs2 (bs1 q)))))) &&& (127 : Int32)) := by
  unfold bs6 bs5 bs4 bs3 bs2 bs1 bc64
  rfl
