/-! FIELDS OF THE CLASSES: their words, by program (wip/whole/gen.py) -/
section FLD
theorem uw_X1 : wsX10 = ([(1, 63), (1, 65), (1, 67), (1, 69), (1, 71)] : List (Nat × Nat)).filterMap tix := rfl
theorem ug_X1 : (wsX10).all goodWord = true := rfl
theorem uw_X3 : wsX30 = ([(2, 18), (2, 20)] : List (Nat × Nat)).filterMap tix := rfl
theorem ug_X3 : (wsX30).all goodWord = true := rfl
theorem uw_X4 : wsX40 = ([(1, 105), (1, 107), (1, 109), (1, 111), (1, 113), (1, 115), (1, 117), (1, 119)] : List (Nat × Nat)).filterMap tix := rfl
theorem ug_X4 : (wsX40).all goodWord = true := rfl
theorem uw_X5 : wsX50 = ([(2, 55), (2, 57), (2, 59), (2, 61)] : List (Nat × Nat)).filterMap tix := rfl
theorem ug_X5 : (wsX50).all goodWord = true := rfl
theorem uw_X6 : wsX60 = ([(2, 36), (2, 38), (2, 40)] : List (Nat × Nat)).filterMap tix := rfl
theorem ug_X6 : (wsX60).all goodWord = true := rfl
theorem uw_X7 : wsX70 = ([(1, 143), (1, 145), (1, 147), (1, 149), (1, 151)] : List (Nat × Nat)).filterMap tix := rfl
theorem ug_X7 : (wsX70).all goodWord = true := rfl
theorem uw_X8 : wsX80 = ([(2, 1), (2, 3), (2, 5)] : List (Nat × Nat)).filterMap tix := rfl
theorem ug_X8 : (wsX80).all goodWord = true := rfl
theorem uw_X9 : wsX90 = ([(1, 197), (1, 199), (1, 201), (1, 203), (1, 205), (1, 207), (1, 209), (1, 211), (1, 213), (1, 215), (1, 217), (1, 219), (1, 221), (1, 223), (1, 225)] : List (Nat × Nat)).filterMap tix := rfl
theorem ug_X9 : (wsX90).all goodWord = true := rfl
theorem uw_X10 : wsX100 = ([(2, 69), (2, 71), (2, 73), (2, 75), (2, 77)] : List (Nat × Nat)).filterMap tix := rfl
theorem ug_X10 : (wsX100).all goodWord = true := rfl
theorem uw_X11 : wsX110 = ([(5, 69), (5, 71), (5, 73), (5, 75), (5, 77), (5, 79), (5, 81), (5, 83), (5, 85), (5, 87), (5, 89), (5, 91), (5, 93), (5, 95), (5, 97), (5, 99), (5, 101), (5, 103)] : List (Nat × Nat)).filterMap tix := rfl
theorem ug_X11 : (wsX110).all goodWord = true := rfl
end FLD
