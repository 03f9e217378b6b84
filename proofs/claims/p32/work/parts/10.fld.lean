/-! FIELDS OF THE CLASSES: their words, by program (wip/p32/gen.py) -/
section FLD
theorem uw_X1 : wsX10 = ([(1, 61), (1, 63), (1, 65), (1, 67), (1, 69)] : List (Nat × Nat)).filterMap tix := rfl
theorem ug_X1 : (wsX10).all goodWord = true := rfl
theorem uw_X3 : wsX30 = ([(2, 16), (2, 18)] : List (Nat × Nat)).filterMap tix := rfl
theorem ug_X3 : (wsX30).all goodWord = true := rfl
theorem uw_X4 : wsX40 = ([(1, 103), (1, 105), (1, 107), (1, 109), (1, 111), (1, 113), (1, 115), (1, 117)] : List (Nat × Nat)).filterMap tix := rfl
theorem ug_X4 : (wsX40).all goodWord = true := rfl
theorem uw_X5 : wsX50 = ([(2, 53), (2, 55), (2, 57), (2, 59)] : List (Nat × Nat)).filterMap tix := rfl
theorem ug_X5 : (wsX50).all goodWord = true := rfl
theorem uw_X6 : wsX60 = ([(2, 34), (2, 36), (2, 38)] : List (Nat × Nat)).filterMap tix := rfl
theorem ug_X6 : (wsX60).all goodWord = true := rfl
theorem uw_X7 : wsX70 = ([(1, 141), (1, 143), (1, 145), (1, 147), (1, 149)] : List (Nat × Nat)).filterMap tix := rfl
theorem ug_X7 : (wsX70).all goodWord = true := rfl
theorem uw_X8 : wsX80 = ([(1, 239), (2, 1), (2, 3)] : List (Nat × Nat)).filterMap tix := rfl
theorem ug_X8 : (wsX80).all goodWord = true := rfl
theorem uw_X9 : wsX90 = ([(1, 195), (1, 197), (1, 199), (1, 201), (1, 203), (1, 205), (1, 207), (1, 209), (1, 211), (1, 213), (1, 215), (1, 217), (1, 219), (1, 221), (1, 223)] : List (Nat × Nat)).filterMap tix := rfl
theorem ug_X9 : (wsX90).all goodWord = true := rfl
theorem uw_X10 : wsX100 = ([(2, 67), (2, 69), (2, 71), (2, 73), (2, 75)] : List (Nat × Nat)).filterMap tix := rfl
theorem ug_X10 : (wsX100).all goodWord = true := rfl
end FLD
