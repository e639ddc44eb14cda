def irm (x y : Int32) : Int32 := x - x / y * y
