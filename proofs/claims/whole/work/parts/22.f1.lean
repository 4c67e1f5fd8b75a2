/-! ===== printed by wip/whole/gen.py: pure functions of PeelReadings$Sets ===== -/
def fX1_clear  : Option (Int32 × Int32 × Int32 × Int32) :=
  some (0, (-9), (-1), 0)
def fX1_add_j12 (count : Int32) (least : Int32) (inAll : Int32) (inSome : Int32) (x1 : Int32) : Option (Int32 × Int32 × Int32 × Int32) :=
  some ((count + 1), least, (inAll &&& x1), (inSome ||| x1))
def fX1_add (count : Int32) (least : Int32) (inAll : Int32) (inSome : Int32) (x1 : Int32) : Option (Int32 × Int32 × Int32 × Int32) :=
  if count = 0 then
    fX1_add_j12 count x1 inAll inSome x1
  else
    fX1_add_j12 count least inAll inSome x1
