/-! the class is made; the references that never change -/
def x_FL : List (Nat × Nat × Nat × Nat) := [(1000, 0, 0, 1), (1001, 0, 0, 3), (1002, 0, 0, 26), (1003, 0, 0, 4), (1004, 0, 0, 7), (1005, 0, 0, 97), (1064, 1, 0, 2), (1192, 4, 0, 5), (1194, 4, 0, 6), (1192, 8, 0, 9), (1194, 8, 0, 10), (1192, 11, 0, 12), (1194, 11, 0, 13), (1192, 14, 0, 15), (1194, 14, 0, 16), (1192, 17, 0, 18), (1194, 17, 0, 19), (1192, 20, 0, 21), (1194, 20, 0, 22), (1192, 23, 0, 24), (1194, 23, 0, 25), (1192, 30, 0, 31), (1194, 30, 0, 32), (1192, 33, 0, 34), (1194, 33, 0, 35), (1192, 36, 0, 37), (1194, 36, 0, 38), (1192, 39, 0, 40), (1194, 39, 0, 41), (1192, 42, 0, 43), (1194, 42, 0, 44), (1192, 45, 0, 46), (1194, 45, 0, 47), (1192, 48, 0, 49), (1194, 48, 0, 50), (1192, 51, 0, 52), (1194, 51, 0, 53), (1192, 54, 0, 55), (1194, 54, 0, 56), (1192, 57, 0, 58), (1194, 57, 0, 59), (1192, 60, 0, 61), (1194, 60, 0, 62), (1192, 63, 0, 64), (1194, 63, 0, 65), (1192, 66, 0, 67), (1194, 66, 0, 68), (1192, 69, 0, 70), (1194, 69, 0, 71), (1192, 72, 0, 73), (1194, 72, 0, 74), (1192, 75, 0, 76), (1194, 75, 0, 77), (1192, 78, 0, 79), (1194, 78, 0, 80), (1192, 81, 0, 82), (1194, 81, 0, 83), (1192, 87, 0, 88), (1194, 87, 0, 89), (7, 7, 0, 8), (7, 7, 1, 11), (7, 7, 2, 14), (7, 7, 3, 17), (7, 7, 4, 20), (7, 7, 5, 23), (1256, 26, 0, 27), (1257, 26, 0, 28), (1258, 26, 0, 29), (1259, 26, 0, 84), (1260, 26, 0, 90), (1261, 26, 0, 95), (1320, 84, 0, 85), (1321, 84, 0, 86), (1323, 84, 0, 87), (1386, 90, 0, 93), (1387, 90, 0, 94), (1448, 95, 0, 96), (1514, 98, 0, 99), (1515, 98, 0, 100), (1516, 98, 0, 101), (1517, 98, 0, 102), (1518, 98, 0, 103), (1519, 98, 0, 104), (1520, 98, 0, 105), (1521, 98, 0, 106), (1522, 98, 0, 107), (1523, 98, 0, 108), (1524, 98, 0, 109), (1514, 110, 0, 111), (1515, 110, 0, 112), (1516, 110, 0, 113), (1517, 110, 0, 114), (1518, 110, 0, 115), (1519, 110, 0, 116), (1520, 110, 0, 117), (1521, 110, 0, 118), (1522, 110, 0, 119), (1523, 110, 0, 120), (1524, 110, 0, 121), (1576, 122, 0, 123), (1577, 122, 0, 124), (1582, 122, 0, 125), (1583, 122, 0, 126), (1584, 122, 0, 127), (1585, 122, 0, 128), (1586, 122, 0, 129), (1587, 122, 0, 130), (1588, 122, 0, 131), (1589, 122, 0, 132), (1590, 122, 0, 133), (1591, 122, 0, 134), (1592, 122, 0, 135), (1593, 122, 0, 136), (1594, 122, 0, 137), (1597, 122, 0, 138), (1598, 122, 0, 139), (1599, 122, 0, 140), (1600, 122, 0, 141), (1601, 122, 0, 142), (1603, 122, 0, 143), (1604, 122, 0, 144), (1606, 122, 0, 145), (1607, 122, 0, 146), (1608, 122, 0, 147), (1609, 122, 0, 148), (1610, 122, 0, 149), (1611, 122, 0, 150), (1612, 122, 0, 151)]
def x_FLb : List (Nat × Nat × Nat × Nat) := [(1000, 0, 0, 1), (1001, 0, 0, 3), (1002, 0, 0, 26), (1003, 0, 0, 4), (1004, 0, 0, 7), (1005, 0, 0, 97), (1064, 1, 0, 2), (1192, 4, 0, 5), (1194, 4, 0, 6), (1192, 8, 0, 9), (1194, 8, 0, 10), (1192, 11, 0, 12), (1194, 11, 0, 13), (1192, 14, 0, 15), (1194, 14, 0, 16), (1192, 17, 0, 18), (1194, 17, 0, 19), (1192, 20, 0, 21), (1194, 20, 0, 22), (1192, 23, 0, 24), (1194, 23, 0, 25), (1192, 30, 0, 31), (1194, 30, 0, 32), (1192, 33, 0, 34), (1194, 33, 0, 35), (1192, 36, 0, 37), (1194, 36, 0, 38), (1192, 39, 0, 40), (1194, 39, 0, 41), (1192, 42, 0, 43), (1194, 42, 0, 44), (1192, 45, 0, 46), (1194, 45, 0, 47), (1192, 48, 0, 49), (1194, 48, 0, 50), (1192, 51, 0, 52), (1194, 51, 0, 53), (1192, 54, 0, 55), (1194, 54, 0, 56), (1192, 57, 0, 58), (1194, 57, 0, 59), (1192, 60, 0, 61), (1194, 60, 0, 62), (1192, 63, 0, 64), (1194, 63, 0, 65), (1192, 66, 0, 67), (1194, 66, 0, 68), (1192, 69, 0, 70), (1194, 69, 0, 71), (1192, 72, 0, 73), (1194, 72, 0, 74), (1192, 75, 0, 76), (1194, 75, 0, 77), (1192, 78, 0, 79), (1194, 78, 0, 80), (1192, 81, 0, 82), (1194, 81, 0, 83), (1192, 87, 0, 88), (1194, 87, 0, 89), (7, 7, 0, 8), (7, 7, 1, 11), (7, 7, 2, 14), (7, 7, 3, 17), (7, 7, 4, 20), (7, 7, 5, 23), (1256, 26, 0, 27), (1257, 26, 0, 28), (1258, 26, 0, 29), (1259, 26, 0, 84), (1260, 26, 0, 90), (1261, 26, 0, 95), (1320, 84, 0, 85), (1321, 84, 0, 86), (1323, 84, 0, 87), (1386, 90, 0, 93), (1387, 90, 0, 94), (1448, 95, 0, 96), (1514, 98, 0, 99), (1515, 98, 0, 100), (1516, 98, 0, 101), (1517, 98, 0, 102), (1518, 98, 0, 103), (1519, 98, 0, 104), (1520, 98, 0, 105), (1521, 98, 0, 106), (1522, 98, 0, 107), (1523, 98, 0, 108), (1524, 98, 0, 109), (1514, 110, 0, 111), (1515, 110, 0, 112), (1516, 110, 0, 113), (1517, 110, 0, 114), (1518, 110, 0, 115), (1519, 110, 0, 116), (1520, 110, 0, 117), (1521, 110, 0, 118), (1522, 110, 0, 119), (1523, 110, 0, 120), (1524, 110, 0, 121)]
theorem cbS {b : Bool} {x y : Option Nat} {v : Nat} (h : (bif b then x else y) = some v) : (b = true ∧ x = some v) ∨ (b = false ∧ y = some v) := by
  cases b
  · exact Or.inr ⟨rfl, h⟩
  · exact Or.inl ⟨rfl, h⟩
theorem ft_mem {k a i v : Nat} (h0 : x_ft k a i = some v) : (k, a, i, v) ∈ x_FL := by
  unfold x_ft at h0
  rcases cbS h0 with ⟨_, h1⟩ | ⟨_, h1⟩
  · rcases cbS h1 with ⟨_, h2⟩ | ⟨_, h2⟩
    · rcases cbS h2 with ⟨_, h3⟩ | ⟨_, h3⟩
      · rcases cbS h3 with ⟨_, h4⟩ | ⟨_, h4⟩
        · rcases cbS h4 with ⟨_, h5⟩ | ⟨_, h5⟩
          · rcases cbS h5 with ⟨b5, h6⟩ | ⟨_, h6⟩
            · obtain rfl := Nat.eq_of_beq_eq_true b5
              rcases cbS h6 with ⟨_, h7⟩ | ⟨_, h7⟩
              · rcases cbS h7 with ⟨_, h8⟩ | ⟨_, h8⟩
                · rcases cbS h8 with ⟨b8, h9⟩ | ⟨_, h9⟩
                  · obtain rfl := Nat.eq_of_beq_eq_true b8
                    rcases cbS h9 with ⟨b9, h10⟩ | ⟨_, h10⟩
                    · obtain rfl := Nat.eq_of_beq_eq_true b9
                      cases h10
                      decide
                    · cases h10
                  · cases h9
                · rcases cbS h8 with ⟨_, h9⟩ | ⟨_, h9⟩
                  · rcases cbS h9 with ⟨b9, h10⟩ | ⟨_, h10⟩
                    · obtain rfl := Nat.eq_of_beq_eq_true b9
                      rcases cbS h10 with ⟨b10, h11⟩ | ⟨_, h11⟩
                      · obtain rfl := Nat.eq_of_beq_eq_true b10
                        cases h11
                        decide
                      · cases h11
                    · cases h10
                  · rcases cbS h9 with ⟨b9, h10⟩ | ⟨_, h10⟩
                    · obtain rfl := Nat.eq_of_beq_eq_true b9
                      rcases cbS h10 with ⟨b10, h11⟩ | ⟨_, h11⟩
                      · obtain rfl := Nat.eq_of_beq_eq_true b10
                        cases h11
                        decide
                      · cases h11
                    · cases h10
              · rcases cbS h7 with ⟨_, h8⟩ | ⟨_, h8⟩
                · rcases cbS h8 with ⟨b8, h9⟩ | ⟨_, h9⟩
                  · obtain rfl := Nat.eq_of_beq_eq_true b8
                    rcases cbS h9 with ⟨b9, h10⟩ | ⟨_, h10⟩
                    · obtain rfl := Nat.eq_of_beq_eq_true b9
                      cases h10
                      decide
                    · cases h10
                  · cases h9
                · rcases cbS h8 with ⟨_, h9⟩ | ⟨_, h9⟩
                  · rcases cbS h9 with ⟨b9, h10⟩ | ⟨_, h10⟩
                    · obtain rfl := Nat.eq_of_beq_eq_true b9
                      rcases cbS h10 with ⟨b10, h11⟩ | ⟨_, h11⟩
                      · obtain rfl := Nat.eq_of_beq_eq_true b10
                        cases h11
                        decide
                      · cases h11
                    · cases h10
                  · rcases cbS h9 with ⟨b9, h10⟩ | ⟨_, h10⟩
                    · obtain rfl := Nat.eq_of_beq_eq_true b9
                      rcases cbS h10 with ⟨b10, h11⟩ | ⟨_, h11⟩
                      · obtain rfl := Nat.eq_of_beq_eq_true b10
                        cases h11
                        decide
                      · cases h11
                    · cases h10
            · cases h6
          · rcases cbS h5 with ⟨b5, h6⟩ | ⟨_, h6⟩
            · obtain rfl := Nat.eq_of_beq_eq_true b5
              rcases cbS h6 with ⟨b6, h7⟩ | ⟨_, h7⟩
              · obtain rfl := Nat.eq_of_beq_eq_true b6
                rcases cbS h7 with ⟨b7, h8⟩ | ⟨_, h8⟩
                · obtain rfl := Nat.eq_of_beq_eq_true b7
                  cases h8
                  decide
                · cases h8
              · cases h7
            · cases h6
        · rcases cbS h4 with ⟨_, h5⟩ | ⟨_, h5⟩
          · rcases cbS h5 with ⟨b5, h6⟩ | ⟨_, h6⟩
            · obtain rfl := Nat.eq_of_beq_eq_true b5
              rcases cbS h6 with ⟨_, h7⟩ | ⟨_, h7⟩
              · rcases cbS h7 with ⟨b7, h8⟩ | ⟨_, h8⟩
                · obtain rfl := Nat.eq_of_beq_eq_true b7
                  rcases cbS h8 with ⟨b8, h9⟩ | ⟨_, h9⟩
                  · obtain rfl := Nat.eq_of_beq_eq_true b8
                    cases h9
                    decide
                  · cases h9
                · cases h8
              · rcases cbS h7 with ⟨b7, h8⟩ | ⟨_, h8⟩
                · obtain rfl := Nat.eq_of_beq_eq_true b7
                  rcases cbS h8 with ⟨b8, h9⟩ | ⟨_, h9⟩
                  · obtain rfl := Nat.eq_of_beq_eq_true b8
                    cases h9
                    decide
                  · cases h9
                · cases h8
            · cases h6
          · rcases cbS h5 with ⟨b5, h6⟩ | ⟨_, h6⟩
            · obtain rfl := Nat.eq_of_beq_eq_true b5
              rcases cbS h6 with ⟨b6, h7⟩ | ⟨_, h7⟩
              · obtain rfl := Nat.eq_of_beq_eq_true b6
                rcases cbS h7 with ⟨_, h8⟩ | ⟨_, h8⟩
                · rcases cbS h8 with ⟨_, h9⟩ | ⟨_, h9⟩
                  · rcases cbS h9 with ⟨b9, h10⟩ | ⟨_, h10⟩
                    · obtain rfl := Nat.eq_of_beq_eq_true b9
                      cases h10
                      decide
                    · cases h10
                  · rcases cbS h9 with ⟨_, h10⟩ | ⟨_, h10⟩
                    · rcases cbS h10 with ⟨b10, h11⟩ | ⟨_, h11⟩
                      · obtain rfl := Nat.eq_of_beq_eq_true b10
                        cases h11
                        decide
                      · cases h11
                    · rcases cbS h10 with ⟨b10, h11⟩ | ⟨_, h11⟩
                      · obtain rfl := Nat.eq_of_beq_eq_true b10
                        cases h11
                        decide
                      · cases h11
                · rcases cbS h8 with ⟨_, h9⟩ | ⟨_, h9⟩
                  · rcases cbS h9 with ⟨b9, h10⟩ | ⟨_, h10⟩
                    · obtain rfl := Nat.eq_of_beq_eq_true b9
                      cases h10
                      decide
                    · cases h10
                  · rcases cbS h9 with ⟨_, h10⟩ | ⟨_, h10⟩
                    · rcases cbS h10 with ⟨b10, h11⟩ | ⟨_, h11⟩
                      · obtain rfl := Nat.eq_of_beq_eq_true b10
                        cases h11
                        decide
                      · cases h11
                    · rcases cbS h10 with ⟨b10, h11⟩ | ⟨_, h11⟩
                      · obtain rfl := Nat.eq_of_beq_eq_true b10
                        cases h11
                        decide
                      · cases h11
              · cases h7
            · cases h6
      · rcases cbS h3 with ⟨_, h4⟩ | ⟨_, h4⟩
        · rcases cbS h4 with ⟨_, h5⟩ | ⟨_, h5⟩
          · rcases cbS h5 with ⟨b5, h6⟩ | ⟨_, h6⟩
            · obtain rfl := Nat.eq_of_beq_eq_true b5
              rcases cbS h6 with ⟨_, h7⟩ | ⟨_, h7⟩
              · rcases cbS h7 with ⟨b7, h8⟩ | ⟨_, h8⟩
                · obtain rfl := Nat.eq_of_beq_eq_true b7
                  rcases cbS h8 with ⟨b8, h9⟩ | ⟨_, h9⟩
                  · obtain rfl := Nat.eq_of_beq_eq_true b8
                    cases h9
                    decide
                  · cases h9
                · cases h8
              · rcases cbS h7 with ⟨b7, h8⟩ | ⟨_, h8⟩
                · obtain rfl := Nat.eq_of_beq_eq_true b7
                  rcases cbS h8 with ⟨b8, h9⟩ | ⟨_, h9⟩
                  · obtain rfl := Nat.eq_of_beq_eq_true b8
                    cases h9
                    decide
                  · cases h9
                · cases h8
            · cases h6
          · rcases cbS h5 with ⟨b5, h6⟩ | ⟨_, h6⟩
            · obtain rfl := Nat.eq_of_beq_eq_true b5
              rcases cbS h6 with ⟨_, h7⟩ | ⟨_, h7⟩
              · rcases cbS h7 with ⟨b7, h8⟩ | ⟨_, h8⟩
                · obtain rfl := Nat.eq_of_beq_eq_true b7
                  rcases cbS h8 with ⟨b8, h9⟩ | ⟨_, h9⟩
                  · obtain rfl := Nat.eq_of_beq_eq_true b8
                    cases h9
                    decide
                  · cases h9
                · cases h8
              · rcases cbS h7 with ⟨b7, h8⟩ | ⟨_, h8⟩
                · obtain rfl := Nat.eq_of_beq_eq_true b7
                  rcases cbS h8 with ⟨b8, h9⟩ | ⟨_, h9⟩
                  · obtain rfl := Nat.eq_of_beq_eq_true b8
                    cases h9
                    decide
                  · cases h9
                · cases h8
            · cases h6
        · rcases cbS h4 with ⟨_, h5⟩ | ⟨_, h5⟩
          · rcases cbS h5 with ⟨b5, h6⟩ | ⟨_, h6⟩
            · obtain rfl := Nat.eq_of_beq_eq_true b5
              rcases cbS h6 with ⟨_, h7⟩ | ⟨_, h7⟩
              · rcases cbS h7 with ⟨b7, h8⟩ | ⟨_, h8⟩
                · obtain rfl := Nat.eq_of_beq_eq_true b7
                  rcases cbS h8 with ⟨b8, h9⟩ | ⟨_, h9⟩
                  · obtain rfl := Nat.eq_of_beq_eq_true b8
                    cases h9
                    decide
                  · cases h9
                · cases h8
              · rcases cbS h7 with ⟨b7, h8⟩ | ⟨_, h8⟩
                · obtain rfl := Nat.eq_of_beq_eq_true b7
                  rcases cbS h8 with ⟨b8, h9⟩ | ⟨_, h9⟩
                  · obtain rfl := Nat.eq_of_beq_eq_true b8
                    cases h9
                    decide
                  · cases h9
                · cases h8
            · cases h6
          · rcases cbS h5 with ⟨_, h6⟩ | ⟨_, h6⟩
            · rcases cbS h6 with ⟨b6, h7⟩ | ⟨_, h7⟩
              · obtain rfl := Nat.eq_of_beq_eq_true b6
                rcases cbS h7 with ⟨_, h8⟩ | ⟨_, h8⟩
                · rcases cbS h8 with ⟨b8, h9⟩ | ⟨_, h9⟩
                  · obtain rfl := Nat.eq_of_beq_eq_true b8
                    rcases cbS h9 with ⟨b9, h10⟩ | ⟨_, h10⟩
                    · obtain rfl := Nat.eq_of_beq_eq_true b9
                      cases h10
                      decide
                    · cases h10
                  · cases h9
                · rcases cbS h8 with ⟨b8, h9⟩ | ⟨_, h9⟩
                  · obtain rfl := Nat.eq_of_beq_eq_true b8
                    rcases cbS h9 with ⟨b9, h10⟩ | ⟨_, h10⟩
                    · obtain rfl := Nat.eq_of_beq_eq_true b9
                      cases h10
                      decide
                    · cases h10
                  · cases h9
              · cases h7
            · rcases cbS h6 with ⟨b6, h7⟩ | ⟨_, h7⟩
              · obtain rfl := Nat.eq_of_beq_eq_true b6
                rcases cbS h7 with ⟨_, h8⟩ | ⟨_, h8⟩
                · rcases cbS h8 with ⟨b8, h9⟩ | ⟨_, h9⟩
                  · obtain rfl := Nat.eq_of_beq_eq_true b8
                    rcases cbS h9 with ⟨b9, h10⟩ | ⟨_, h10⟩
                    · obtain rfl := Nat.eq_of_beq_eq_true b9
                      cases h10
                      decide
                    · cases h10
                  · cases h9
                · rcases cbS h8 with ⟨b8, h9⟩ | ⟨_, h9⟩
                  · obtain rfl := Nat.eq_of_beq_eq_true b8
                    rcases cbS h9 with ⟨b9, h10⟩ | ⟨_, h10⟩
                    · obtain rfl := Nat.eq_of_beq_eq_true b9
                      cases h10
                      decide
                    · cases h10
                  · cases h9
              · cases h7
    · rcases cbS h2 with ⟨_, h3⟩ | ⟨_, h3⟩
      · rcases cbS h3 with ⟨_, h4⟩ | ⟨_, h4⟩
        · rcases cbS h4 with ⟨_, h5⟩ | ⟨_, h5⟩
          · rcases cbS h5 with ⟨b5, h6⟩ | ⟨_, h6⟩
            · obtain rfl := Nat.eq_of_beq_eq_true b5
              rcases cbS h6 with ⟨_, h7⟩ | ⟨_, h7⟩
              · rcases cbS h7 with ⟨b7, h8⟩ | ⟨_, h8⟩
                · obtain rfl := Nat.eq_of_beq_eq_true b7
                  rcases cbS h8 with ⟨b8, h9⟩ | ⟨_, h9⟩
                  · obtain rfl := Nat.eq_of_beq_eq_true b8
                    cases h9
                    decide
                  · cases h9
                · cases h8
              · rcases cbS h7 with ⟨b7, h8⟩ | ⟨_, h8⟩
                · obtain rfl := Nat.eq_of_beq_eq_true b7
                  rcases cbS h8 with ⟨b8, h9⟩ | ⟨_, h9⟩
                  · obtain rfl := Nat.eq_of_beq_eq_true b8
                    cases h9
                    decide
                  · cases h9
                · cases h8
            · cases h6
          · rcases cbS h5 with ⟨b5, h6⟩ | ⟨_, h6⟩
            · obtain rfl := Nat.eq_of_beq_eq_true b5
              rcases cbS h6 with ⟨_, h7⟩ | ⟨_, h7⟩
              · rcases cbS h7 with ⟨_, h8⟩ | ⟨_, h8⟩
                · rcases cbS h8 with ⟨b8, h9⟩ | ⟨_, h9⟩
                  · obtain rfl := Nat.eq_of_beq_eq_true b8
                    rcases cbS h9 with ⟨b9, h10⟩ | ⟨_, h10⟩
                    · obtain rfl := Nat.eq_of_beq_eq_true b9
                      cases h10
                      decide
                    · cases h10
                  · cases h9
                · rcases cbS h8 with ⟨_, h9⟩ | ⟨_, h9⟩
                  · rcases cbS h9 with ⟨b9, h10⟩ | ⟨_, h10⟩
                    · obtain rfl := Nat.eq_of_beq_eq_true b9
                      rcases cbS h10 with ⟨b10, h11⟩ | ⟨_, h11⟩
                      · obtain rfl := Nat.eq_of_beq_eq_true b10
                        cases h11
                        decide
                      · cases h11
                    · cases h10
                  · rcases cbS h9 with ⟨b9, h10⟩ | ⟨_, h10⟩
                    · obtain rfl := Nat.eq_of_beq_eq_true b9
                      rcases cbS h10 with ⟨b10, h11⟩ | ⟨_, h11⟩
                      · obtain rfl := Nat.eq_of_beq_eq_true b10
                        cases h11
                        decide
                      · cases h11
                    · cases h10
              · rcases cbS h7 with ⟨_, h8⟩ | ⟨_, h8⟩
                · rcases cbS h8 with ⟨b8, h9⟩ | ⟨_, h9⟩
                  · obtain rfl := Nat.eq_of_beq_eq_true b8
                    rcases cbS h9 with ⟨b9, h10⟩ | ⟨_, h10⟩
                    · obtain rfl := Nat.eq_of_beq_eq_true b9
                      cases h10
                      decide
                    · cases h10
                  · cases h9
                · rcases cbS h8 with ⟨_, h9⟩ | ⟨_, h9⟩
                  · rcases cbS h9 with ⟨b9, h10⟩ | ⟨_, h10⟩
                    · obtain rfl := Nat.eq_of_beq_eq_true b9
                      rcases cbS h10 with ⟨b10, h11⟩ | ⟨_, h11⟩
                      · obtain rfl := Nat.eq_of_beq_eq_true b10
                        cases h11
                        decide
                      · cases h11
                    · cases h10
                  · rcases cbS h9 with ⟨b9, h10⟩ | ⟨_, h10⟩
                    · obtain rfl := Nat.eq_of_beq_eq_true b9
                      rcases cbS h10 with ⟨b10, h11⟩ | ⟨_, h11⟩
                      · obtain rfl := Nat.eq_of_beq_eq_true b10
                        cases h11
                        decide
                      · cases h11
                    · cases h10
            · cases h6
        · rcases cbS h4 with ⟨_, h5⟩ | ⟨_, h5⟩
          · rcases cbS h5 with ⟨b5, h6⟩ | ⟨_, h6⟩
            · obtain rfl := Nat.eq_of_beq_eq_true b5
              rcases cbS h6 with ⟨_, h7⟩ | ⟨_, h7⟩
              · rcases cbS h7 with ⟨b7, h8⟩ | ⟨_, h8⟩
                · obtain rfl := Nat.eq_of_beq_eq_true b7
                  rcases cbS h8 with ⟨b8, h9⟩ | ⟨_, h9⟩
                  · obtain rfl := Nat.eq_of_beq_eq_true b8
                    cases h9
                    decide
                  · cases h9
                · cases h8
              · rcases cbS h7 with ⟨b7, h8⟩ | ⟨_, h8⟩
                · obtain rfl := Nat.eq_of_beq_eq_true b7
                  rcases cbS h8 with ⟨b8, h9⟩ | ⟨_, h9⟩
                  · obtain rfl := Nat.eq_of_beq_eq_true b8
                    cases h9
                    decide
                  · cases h9
                · cases h8
            · cases h6
          · rcases cbS h5 with ⟨b5, h6⟩ | ⟨_, h6⟩
            · obtain rfl := Nat.eq_of_beq_eq_true b5
              rcases cbS h6 with ⟨_, h7⟩ | ⟨_, h7⟩
              · rcases cbS h7 with ⟨b7, h8⟩ | ⟨_, h8⟩
                · obtain rfl := Nat.eq_of_beq_eq_true b7
                  rcases cbS h8 with ⟨b8, h9⟩ | ⟨_, h9⟩
                  · obtain rfl := Nat.eq_of_beq_eq_true b8
                    cases h9
                    decide
                  · cases h9
                · cases h8
              · rcases cbS h7 with ⟨b7, h8⟩ | ⟨_, h8⟩
                · obtain rfl := Nat.eq_of_beq_eq_true b7
                  rcases cbS h8 with ⟨b8, h9⟩ | ⟨_, h9⟩
                  · obtain rfl := Nat.eq_of_beq_eq_true b8
                    cases h9
                    decide
                  · cases h9
                · cases h8
            · cases h6
      · rcases cbS h3 with ⟨_, h4⟩ | ⟨_, h4⟩
        · rcases cbS h4 with ⟨_, h5⟩ | ⟨_, h5⟩
          · rcases cbS h5 with ⟨b5, h6⟩ | ⟨_, h6⟩
            · obtain rfl := Nat.eq_of_beq_eq_true b5
              rcases cbS h6 with ⟨_, h7⟩ | ⟨_, h7⟩
              · rcases cbS h7 with ⟨b7, h8⟩ | ⟨_, h8⟩
                · obtain rfl := Nat.eq_of_beq_eq_true b7
                  rcases cbS h8 with ⟨b8, h9⟩ | ⟨_, h9⟩
                  · obtain rfl := Nat.eq_of_beq_eq_true b8
                    cases h9
                    decide
                  · cases h9
                · cases h8
              · rcases cbS h7 with ⟨b7, h8⟩ | ⟨_, h8⟩
                · obtain rfl := Nat.eq_of_beq_eq_true b7
                  rcases cbS h8 with ⟨b8, h9⟩ | ⟨_, h9⟩
                  · obtain rfl := Nat.eq_of_beq_eq_true b8
                    cases h9
                    decide
                  · cases h9
                · cases h8
            · cases h6
          · rcases cbS h5 with ⟨b5, h6⟩ | ⟨_, h6⟩
            · obtain rfl := Nat.eq_of_beq_eq_true b5
              rcases cbS h6 with ⟨_, h7⟩ | ⟨_, h7⟩
              · rcases cbS h7 with ⟨b7, h8⟩ | ⟨_, h8⟩
                · obtain rfl := Nat.eq_of_beq_eq_true b7
                  rcases cbS h8 with ⟨b8, h9⟩ | ⟨_, h9⟩
                  · obtain rfl := Nat.eq_of_beq_eq_true b8
                    cases h9
                    decide
                  · cases h9
                · cases h8
              · rcases cbS h7 with ⟨b7, h8⟩ | ⟨_, h8⟩
                · obtain rfl := Nat.eq_of_beq_eq_true b7
                  rcases cbS h8 with ⟨b8, h9⟩ | ⟨_, h9⟩
                  · obtain rfl := Nat.eq_of_beq_eq_true b8
                    cases h9
                    decide
                  · cases h9
                · cases h8
            · cases h6
        · rcases cbS h4 with ⟨_, h5⟩ | ⟨_, h5⟩
          · rcases cbS h5 with ⟨b5, h6⟩ | ⟨_, h6⟩
            · obtain rfl := Nat.eq_of_beq_eq_true b5
              rcases cbS h6 with ⟨_, h7⟩ | ⟨_, h7⟩
              · rcases cbS h7 with ⟨b7, h8⟩ | ⟨_, h8⟩
                · obtain rfl := Nat.eq_of_beq_eq_true b7
                  rcases cbS h8 with ⟨b8, h9⟩ | ⟨_, h9⟩
                  · obtain rfl := Nat.eq_of_beq_eq_true b8
                    cases h9
                    decide
                  · cases h9
                · cases h8
              · rcases cbS h7 with ⟨b7, h8⟩ | ⟨_, h8⟩
                · obtain rfl := Nat.eq_of_beq_eq_true b7
                  rcases cbS h8 with ⟨b8, h9⟩ | ⟨_, h9⟩
                  · obtain rfl := Nat.eq_of_beq_eq_true b8
                    cases h9
                    decide
                  · cases h9
                · cases h8
            · cases h6
          · rcases cbS h5 with ⟨_, h6⟩ | ⟨_, h6⟩
            · rcases cbS h6 with ⟨b6, h7⟩ | ⟨_, h7⟩
              · obtain rfl := Nat.eq_of_beq_eq_true b6
                rcases cbS h7 with ⟨_, h8⟩ | ⟨_, h8⟩
                · rcases cbS h8 with ⟨b8, h9⟩ | ⟨_, h9⟩
                  · obtain rfl := Nat.eq_of_beq_eq_true b8
                    rcases cbS h9 with ⟨b9, h10⟩ | ⟨_, h10⟩
                    · obtain rfl := Nat.eq_of_beq_eq_true b9
                      cases h10
                      decide
                    · cases h10
                  · cases h9
                · rcases cbS h8 with ⟨b8, h9⟩ | ⟨_, h9⟩
                  · obtain rfl := Nat.eq_of_beq_eq_true b8
                    rcases cbS h9 with ⟨b9, h10⟩ | ⟨_, h10⟩
                    · obtain rfl := Nat.eq_of_beq_eq_true b9
                      cases h10
                      decide
                    · cases h10
                  · cases h9
              · cases h7
            · rcases cbS h6 with ⟨b6, h7⟩ | ⟨_, h7⟩
              · obtain rfl := Nat.eq_of_beq_eq_true b6
                rcases cbS h7 with ⟨_, h8⟩ | ⟨_, h8⟩
                · rcases cbS h8 with ⟨b8, h9⟩ | ⟨_, h9⟩
                  · obtain rfl := Nat.eq_of_beq_eq_true b8
                    rcases cbS h9 with ⟨b9, h10⟩ | ⟨_, h10⟩
                    · obtain rfl := Nat.eq_of_beq_eq_true b9
                      cases h10
                      decide
                    · cases h10
                  · cases h9
                · rcases cbS h8 with ⟨b8, h9⟩ | ⟨_, h9⟩
                  · obtain rfl := Nat.eq_of_beq_eq_true b8
                    rcases cbS h9 with ⟨b9, h10⟩ | ⟨_, h10⟩
                    · obtain rfl := Nat.eq_of_beq_eq_true b9
                      cases h10
                      decide
                    · cases h10
                  · cases h9
              · cases h7
  · rcases cbS h1 with ⟨_, h2⟩ | ⟨_, h2⟩
    · rcases cbS h2 with ⟨_, h3⟩ | ⟨_, h3⟩
      · rcases cbS h3 with ⟨_, h4⟩ | ⟨_, h4⟩
        · rcases cbS h4 with ⟨_, h5⟩ | ⟨_, h5⟩
          · rcases cbS h5 with ⟨b5, h6⟩ | ⟨_, h6⟩
            · obtain rfl := Nat.eq_of_beq_eq_true b5
              rcases cbS h6 with ⟨_, h7⟩ | ⟨_, h7⟩
              · rcases cbS h7 with ⟨b7, h8⟩ | ⟨_, h8⟩
                · obtain rfl := Nat.eq_of_beq_eq_true b7
                  rcases cbS h8 with ⟨b8, h9⟩ | ⟨_, h9⟩
                  · obtain rfl := Nat.eq_of_beq_eq_true b8
                    cases h9
                    decide
                  · cases h9
                · cases h8
              · rcases cbS h7 with ⟨b7, h8⟩ | ⟨_, h8⟩
                · obtain rfl := Nat.eq_of_beq_eq_true b7
                  rcases cbS h8 with ⟨b8, h9⟩ | ⟨_, h9⟩
                  · obtain rfl := Nat.eq_of_beq_eq_true b8
                    cases h9
                    decide
                  · cases h9
                · cases h8
            · cases h6
          · rcases cbS h5 with ⟨b5, h6⟩ | ⟨_, h6⟩
            · obtain rfl := Nat.eq_of_beq_eq_true b5
              rcases cbS h6 with ⟨_, h7⟩ | ⟨_, h7⟩
              · rcases cbS h7 with ⟨b7, h8⟩ | ⟨_, h8⟩
                · obtain rfl := Nat.eq_of_beq_eq_true b7
                  rcases cbS h8 with ⟨b8, h9⟩ | ⟨_, h9⟩
                  · obtain rfl := Nat.eq_of_beq_eq_true b8
                    cases h9
                    decide
                  · cases h9
                · cases h8
              · rcases cbS h7 with ⟨b7, h8⟩ | ⟨_, h8⟩
                · obtain rfl := Nat.eq_of_beq_eq_true b7
                  rcases cbS h8 with ⟨b8, h9⟩ | ⟨_, h9⟩
                  · obtain rfl := Nat.eq_of_beq_eq_true b8
                    cases h9
                    decide
                  · cases h9
                · cases h8
            · cases h6
        · rcases cbS h4 with ⟨_, h5⟩ | ⟨_, h5⟩
          · rcases cbS h5 with ⟨b5, h6⟩ | ⟨_, h6⟩
            · obtain rfl := Nat.eq_of_beq_eq_true b5
              rcases cbS h6 with ⟨_, h7⟩ | ⟨_, h7⟩
              · rcases cbS h7 with ⟨b7, h8⟩ | ⟨_, h8⟩
                · obtain rfl := Nat.eq_of_beq_eq_true b7
                  rcases cbS h8 with ⟨b8, h9⟩ | ⟨_, h9⟩
                  · obtain rfl := Nat.eq_of_beq_eq_true b8
                    cases h9
                    decide
                  · cases h9
                · cases h8
              · rcases cbS h7 with ⟨b7, h8⟩ | ⟨_, h8⟩
                · obtain rfl := Nat.eq_of_beq_eq_true b7
                  rcases cbS h8 with ⟨b8, h9⟩ | ⟨_, h9⟩
                  · obtain rfl := Nat.eq_of_beq_eq_true b8
                    cases h9
                    decide
                  · cases h9
                · cases h8
            · cases h6
          · rcases cbS h5 with ⟨b5, h6⟩ | ⟨_, h6⟩
            · obtain rfl := Nat.eq_of_beq_eq_true b5
              rcases cbS h6 with ⟨_, h7⟩ | ⟨_, h7⟩
              · rcases cbS h7 with ⟨b7, h8⟩ | ⟨_, h8⟩
                · obtain rfl := Nat.eq_of_beq_eq_true b7
                  rcases cbS h8 with ⟨b8, h9⟩ | ⟨_, h9⟩
                  · obtain rfl := Nat.eq_of_beq_eq_true b8
                    cases h9
                    decide
                  · cases h9
                · cases h8
              · rcases cbS h7 with ⟨b7, h8⟩ | ⟨_, h8⟩
                · obtain rfl := Nat.eq_of_beq_eq_true b7
                  rcases cbS h8 with ⟨b8, h9⟩ | ⟨_, h9⟩
                  · obtain rfl := Nat.eq_of_beq_eq_true b8
                    cases h9
                    decide
                  · cases h9
                · cases h8
            · cases h6
      · rcases cbS h3 with ⟨_, h4⟩ | ⟨_, h4⟩
        · rcases cbS h4 with ⟨_, h5⟩ | ⟨_, h5⟩
          · rcases cbS h5 with ⟨b5, h6⟩ | ⟨_, h6⟩
            · obtain rfl := Nat.eq_of_beq_eq_true b5
              rcases cbS h6 with ⟨_, h7⟩ | ⟨_, h7⟩
              · rcases cbS h7 with ⟨b7, h8⟩ | ⟨_, h8⟩
                · obtain rfl := Nat.eq_of_beq_eq_true b7
                  rcases cbS h8 with ⟨b8, h9⟩ | ⟨_, h9⟩
                  · obtain rfl := Nat.eq_of_beq_eq_true b8
                    cases h9
                    decide
                  · cases h9
                · cases h8
              · rcases cbS h7 with ⟨b7, h8⟩ | ⟨_, h8⟩
                · obtain rfl := Nat.eq_of_beq_eq_true b7
                  rcases cbS h8 with ⟨b8, h9⟩ | ⟨_, h9⟩
                  · obtain rfl := Nat.eq_of_beq_eq_true b8
                    cases h9
                    decide
                  · cases h9
                · cases h8
            · cases h6
          · rcases cbS h5 with ⟨b5, h6⟩ | ⟨_, h6⟩
            · obtain rfl := Nat.eq_of_beq_eq_true b5
              rcases cbS h6 with ⟨_, h7⟩ | ⟨_, h7⟩
              · rcases cbS h7 with ⟨b7, h8⟩ | ⟨_, h8⟩
                · obtain rfl := Nat.eq_of_beq_eq_true b7
                  rcases cbS h8 with ⟨b8, h9⟩ | ⟨_, h9⟩
                  · obtain rfl := Nat.eq_of_beq_eq_true b8
                    cases h9
                    decide
                  · cases h9
                · cases h8
              · rcases cbS h7 with ⟨b7, h8⟩ | ⟨_, h8⟩
                · obtain rfl := Nat.eq_of_beq_eq_true b7
                  rcases cbS h8 with ⟨b8, h9⟩ | ⟨_, h9⟩
                  · obtain rfl := Nat.eq_of_beq_eq_true b8
                    cases h9
                    decide
                  · cases h9
                · cases h8
            · cases h6
        · rcases cbS h4 with ⟨_, h5⟩ | ⟨_, h5⟩
          · rcases cbS h5 with ⟨b5, h6⟩ | ⟨_, h6⟩
            · obtain rfl := Nat.eq_of_beq_eq_true b5
              rcases cbS h6 with ⟨_, h7⟩ | ⟨_, h7⟩
              · rcases cbS h7 with ⟨b7, h8⟩ | ⟨_, h8⟩
                · obtain rfl := Nat.eq_of_beq_eq_true b7
                  rcases cbS h8 with ⟨b8, h9⟩ | ⟨_, h9⟩
                  · obtain rfl := Nat.eq_of_beq_eq_true b8
                    cases h9
                    decide
                  · cases h9
                · cases h8
              · rcases cbS h7 with ⟨b7, h8⟩ | ⟨_, h8⟩
                · obtain rfl := Nat.eq_of_beq_eq_true b7
                  rcases cbS h8 with ⟨b8, h9⟩ | ⟨_, h9⟩
                  · obtain rfl := Nat.eq_of_beq_eq_true b8
                    cases h9
                    decide
                  · cases h9
                · cases h8
            · cases h6
          · rcases cbS h5 with ⟨_, h6⟩ | ⟨_, h6⟩
            · rcases cbS h6 with ⟨b6, h7⟩ | ⟨_, h7⟩
              · obtain rfl := Nat.eq_of_beq_eq_true b6
                rcases cbS h7 with ⟨_, h8⟩ | ⟨_, h8⟩
                · rcases cbS h8 with ⟨b8, h9⟩ | ⟨_, h9⟩
                  · obtain rfl := Nat.eq_of_beq_eq_true b8
                    rcases cbS h9 with ⟨b9, h10⟩ | ⟨_, h10⟩
                    · obtain rfl := Nat.eq_of_beq_eq_true b9
                      cases h10
                      decide
                    · cases h10
                  · cases h9
                · rcases cbS h8 with ⟨b8, h9⟩ | ⟨_, h9⟩
                  · obtain rfl := Nat.eq_of_beq_eq_true b8
                    rcases cbS h9 with ⟨b9, h10⟩ | ⟨_, h10⟩
                    · obtain rfl := Nat.eq_of_beq_eq_true b9
                      cases h10
                      decide
                    · cases h10
                  · cases h9
              · cases h7
            · rcases cbS h6 with ⟨b6, h7⟩ | ⟨_, h7⟩
              · obtain rfl := Nat.eq_of_beq_eq_true b6
                rcases cbS h7 with ⟨_, h8⟩ | ⟨_, h8⟩
                · rcases cbS h8 with ⟨b8, h9⟩ | ⟨_, h9⟩
                  · obtain rfl := Nat.eq_of_beq_eq_true b8
                    rcases cbS h9 with ⟨b9, h10⟩ | ⟨_, h10⟩
                    · obtain rfl := Nat.eq_of_beq_eq_true b9
                      cases h10
                      decide
                    · cases h10
                  · cases h9
                · rcases cbS h8 with ⟨b8, h9⟩ | ⟨_, h9⟩
                  · obtain rfl := Nat.eq_of_beq_eq_true b8
                    rcases cbS h9 with ⟨b9, h10⟩ | ⟨_, h10⟩
                    · obtain rfl := Nat.eq_of_beq_eq_true b9
                      cases h10
                      decide
                    · cases h10
                  · cases h9
              · cases h7
    · rcases cbS h2 with ⟨_, h3⟩ | ⟨_, h3⟩
      · rcases cbS h3 with ⟨_, h4⟩ | ⟨_, h4⟩
        · rcases cbS h4 with ⟨_, h5⟩ | ⟨_, h5⟩
          · rcases cbS h5 with ⟨b5, h6⟩ | ⟨_, h6⟩
            · obtain rfl := Nat.eq_of_beq_eq_true b5
              rcases cbS h6 with ⟨_, h7⟩ | ⟨_, h7⟩
              · rcases cbS h7 with ⟨b7, h8⟩ | ⟨_, h8⟩
                · obtain rfl := Nat.eq_of_beq_eq_true b7
                  rcases cbS h8 with ⟨b8, h9⟩ | ⟨_, h9⟩
                  · obtain rfl := Nat.eq_of_beq_eq_true b8
                    cases h9
                    decide
                  · cases h9
                · cases h8
              · rcases cbS h7 with ⟨b7, h8⟩ | ⟨_, h8⟩
                · obtain rfl := Nat.eq_of_beq_eq_true b7
                  rcases cbS h8 with ⟨b8, h9⟩ | ⟨_, h9⟩
                  · obtain rfl := Nat.eq_of_beq_eq_true b8
                    cases h9
                    decide
                  · cases h9
                · cases h8
            · cases h6
          · rcases cbS h5 with ⟨b5, h6⟩ | ⟨_, h6⟩
            · obtain rfl := Nat.eq_of_beq_eq_true b5
              rcases cbS h6 with ⟨_, h7⟩ | ⟨_, h7⟩
              · rcases cbS h7 with ⟨b7, h8⟩ | ⟨_, h8⟩
                · obtain rfl := Nat.eq_of_beq_eq_true b7
                  rcases cbS h8 with ⟨b8, h9⟩ | ⟨_, h9⟩
                  · obtain rfl := Nat.eq_of_beq_eq_true b8
                    cases h9
                    decide
                  · cases h9
                · cases h8
              · rcases cbS h7 with ⟨b7, h8⟩ | ⟨_, h8⟩
                · obtain rfl := Nat.eq_of_beq_eq_true b7
                  rcases cbS h8 with ⟨b8, h9⟩ | ⟨_, h9⟩
                  · obtain rfl := Nat.eq_of_beq_eq_true b8
                    cases h9
                    decide
                  · cases h9
                · cases h8
            · cases h6
        · rcases cbS h4 with ⟨_, h5⟩ | ⟨_, h5⟩
          · rcases cbS h5 with ⟨b5, h6⟩ | ⟨_, h6⟩
            · obtain rfl := Nat.eq_of_beq_eq_true b5
              rcases cbS h6 with ⟨_, h7⟩ | ⟨_, h7⟩
              · rcases cbS h7 with ⟨b7, h8⟩ | ⟨_, h8⟩
                · obtain rfl := Nat.eq_of_beq_eq_true b7
                  rcases cbS h8 with ⟨b8, h9⟩ | ⟨_, h9⟩
                  · obtain rfl := Nat.eq_of_beq_eq_true b8
                    cases h9
                    decide
                  · cases h9
                · cases h8
              · rcases cbS h7 with ⟨_, h8⟩ | ⟨_, h8⟩
                · rcases cbS h8 with ⟨b8, h9⟩ | ⟨_, h9⟩
                  · obtain rfl := Nat.eq_of_beq_eq_true b8
                    rcases cbS h9 with ⟨b9, h10⟩ | ⟨_, h10⟩
                    · obtain rfl := Nat.eq_of_beq_eq_true b9
                      cases h10
                      decide
                    · cases h10
                  · cases h9
                · rcases cbS h8 with ⟨b8, h9⟩ | ⟨_, h9⟩
                  · obtain rfl := Nat.eq_of_beq_eq_true b8
                    rcases cbS h9 with ⟨b9, h10⟩ | ⟨_, h10⟩
                    · obtain rfl := Nat.eq_of_beq_eq_true b9
                      cases h10
                      decide
                    · cases h10
                  · cases h9
            · cases h6
          · rcases cbS h5 with ⟨b5, h6⟩ | ⟨_, h6⟩
            · obtain rfl := Nat.eq_of_beq_eq_true b5
              rcases cbS h6 with ⟨_, h7⟩ | ⟨_, h7⟩
              · rcases cbS h7 with ⟨b7, h8⟩ | ⟨_, h8⟩
                · obtain rfl := Nat.eq_of_beq_eq_true b7
                  rcases cbS h8 with ⟨b8, h9⟩ | ⟨_, h9⟩
                  · obtain rfl := Nat.eq_of_beq_eq_true b8
                    cases h9
                    decide
                  · cases h9
                · cases h8
              · rcases cbS h7 with ⟨b7, h8⟩ | ⟨_, h8⟩
                · obtain rfl := Nat.eq_of_beq_eq_true b7
                  rcases cbS h8 with ⟨b8, h9⟩ | ⟨_, h9⟩
                  · obtain rfl := Nat.eq_of_beq_eq_true b8
                    cases h9
                    decide
                  · cases h9
                · cases h8
            · cases h6
      · rcases cbS h3 with ⟨_, h4⟩ | ⟨_, h4⟩
        · rcases cbS h4 with ⟨_, h5⟩ | ⟨_, h5⟩
          · rcases cbS h5 with ⟨b5, h6⟩ | ⟨_, h6⟩
            · obtain rfl := Nat.eq_of_beq_eq_true b5
              rcases cbS h6 with ⟨_, h7⟩ | ⟨_, h7⟩
              · rcases cbS h7 with ⟨b7, h8⟩ | ⟨_, h8⟩
                · obtain rfl := Nat.eq_of_beq_eq_true b7
                  rcases cbS h8 with ⟨b8, h9⟩ | ⟨_, h9⟩
                  · obtain rfl := Nat.eq_of_beq_eq_true b8
                    cases h9
                    decide
                  · cases h9
                · cases h8
              · rcases cbS h7 with ⟨b7, h8⟩ | ⟨_, h8⟩
                · obtain rfl := Nat.eq_of_beq_eq_true b7
                  rcases cbS h8 with ⟨b8, h9⟩ | ⟨_, h9⟩
                  · obtain rfl := Nat.eq_of_beq_eq_true b8
                    cases h9
                    decide
                  · cases h9
                · cases h8
            · cases h6
          · rcases cbS h5 with ⟨b5, h6⟩ | ⟨_, h6⟩
            · obtain rfl := Nat.eq_of_beq_eq_true b5
              rcases cbS h6 with ⟨b6, h7⟩ | ⟨_, h7⟩
              · obtain rfl := Nat.eq_of_beq_eq_true b6
                rcases cbS h7 with ⟨b7, h8⟩ | ⟨_, h8⟩
                · obtain rfl := Nat.eq_of_beq_eq_true b7
                  cases h8
                  decide
                · cases h8
              · cases h7
            · cases h6
        · rcases cbS h4 with ⟨_, h5⟩ | ⟨_, h5⟩
          · rcases cbS h5 with ⟨b5, h6⟩ | ⟨_, h6⟩
            · obtain rfl := Nat.eq_of_beq_eq_true b5
              rcases cbS h6 with ⟨_, h7⟩ | ⟨_, h7⟩
              · rcases cbS h7 with ⟨_, h8⟩ | ⟨_, h8⟩
                · rcases cbS h8 with ⟨_, h9⟩ | ⟨_, h9⟩
                  · rcases cbS h9 with ⟨b9, h10⟩ | ⟨_, h10⟩
                    · obtain rfl := Nat.eq_of_beq_eq_true b9
                      rcases cbS h10 with ⟨b10, h11⟩ | ⟨_, h11⟩
                      · obtain rfl := Nat.eq_of_beq_eq_true b10
                        cases h11
                        decide
                      · cases h11
                    · cases h10
                  · rcases cbS h9 with ⟨b9, h10⟩ | ⟨_, h10⟩
                    · obtain rfl := Nat.eq_of_beq_eq_true b9
                      rcases cbS h10 with ⟨b10, h11⟩ | ⟨_, h11⟩
                      · obtain rfl := Nat.eq_of_beq_eq_true b10
                        cases h11
                        decide
                      · cases h11
                    · cases h10
                · rcases cbS h8 with ⟨_, h9⟩ | ⟨_, h9⟩
                  · rcases cbS h9 with ⟨b9, h10⟩ | ⟨_, h10⟩
                    · obtain rfl := Nat.eq_of_beq_eq_true b9
                      rcases cbS h10 with ⟨b10, h11⟩ | ⟨_, h11⟩
                      · obtain rfl := Nat.eq_of_beq_eq_true b10
                        cases h11
                        decide
                      · cases h11
                    · cases h10
                  · rcases cbS h9 with ⟨_, h10⟩ | ⟨_, h10⟩
                    · rcases cbS h10 with ⟨b10, h11⟩ | ⟨_, h11⟩
                      · obtain rfl := Nat.eq_of_beq_eq_true b10
                        rcases cbS h11 with ⟨b11, h12⟩ | ⟨_, h12⟩
                        · obtain rfl := Nat.eq_of_beq_eq_true b11
                          cases h12
                          decide
                        · cases h12
                      · cases h11
                    · rcases cbS h10 with ⟨b10, h11⟩ | ⟨_, h11⟩
                      · obtain rfl := Nat.eq_of_beq_eq_true b10
                        rcases cbS h11 with ⟨b11, h12⟩ | ⟨_, h12⟩
                        · obtain rfl := Nat.eq_of_beq_eq_true b11
                          cases h12
                          decide
                        · cases h12
                      · cases h11
              · rcases cbS h7 with ⟨_, h8⟩ | ⟨_, h8⟩
                · rcases cbS h8 with ⟨_, h9⟩ | ⟨_, h9⟩
                  · rcases cbS h9 with ⟨b9, h10⟩ | ⟨_, h10⟩
                    · obtain rfl := Nat.eq_of_beq_eq_true b9
                      rcases cbS h10 with ⟨b10, h11⟩ | ⟨_, h11⟩
                      · obtain rfl := Nat.eq_of_beq_eq_true b10
                        cases h11
                        decide
                      · cases h11
                    · cases h10
                  · rcases cbS h9 with ⟨_, h10⟩ | ⟨_, h10⟩
                    · rcases cbS h10 with ⟨b10, h11⟩ | ⟨_, h11⟩
                      · obtain rfl := Nat.eq_of_beq_eq_true b10
                        rcases cbS h11 with ⟨b11, h12⟩ | ⟨_, h12⟩
                        · obtain rfl := Nat.eq_of_beq_eq_true b11
                          cases h12
                          decide
                        · cases h12
                      · cases h11
                    · rcases cbS h10 with ⟨b10, h11⟩ | ⟨_, h11⟩
                      · obtain rfl := Nat.eq_of_beq_eq_true b10
                        rcases cbS h11 with ⟨b11, h12⟩ | ⟨_, h12⟩
                        · obtain rfl := Nat.eq_of_beq_eq_true b11
                          cases h12
                          decide
                        · cases h12
                      · cases h11
                · rcases cbS h8 with ⟨_, h9⟩ | ⟨_, h9⟩
                  · rcases cbS h9 with ⟨b9, h10⟩ | ⟨_, h10⟩
                    · obtain rfl := Nat.eq_of_beq_eq_true b9
                      rcases cbS h10 with ⟨b10, h11⟩ | ⟨_, h11⟩
                      · obtain rfl := Nat.eq_of_beq_eq_true b10
                        cases h11
                        decide
                      · cases h11
                    · cases h10
                  · rcases cbS h9 with ⟨_, h10⟩ | ⟨_, h10⟩
                    · rcases cbS h10 with ⟨b10, h11⟩ | ⟨_, h11⟩
                      · obtain rfl := Nat.eq_of_beq_eq_true b10
                        rcases cbS h11 with ⟨b11, h12⟩ | ⟨_, h12⟩
                        · obtain rfl := Nat.eq_of_beq_eq_true b11
                          cases h12
                          decide
                        · cases h12
                      · cases h11
                    · rcases cbS h10 with ⟨b10, h11⟩ | ⟨_, h11⟩
                      · obtain rfl := Nat.eq_of_beq_eq_true b10
                        rcases cbS h11 with ⟨b11, h12⟩ | ⟨_, h12⟩
                        · obtain rfl := Nat.eq_of_beq_eq_true b11
                          cases h12
                          decide
                        · cases h12
                      · cases h11
            · cases h6
          · rcases cbS h5 with ⟨_, h6⟩ | ⟨_, h6⟩
            · rcases cbS h6 with ⟨b6, h7⟩ | ⟨_, h7⟩
              · obtain rfl := Nat.eq_of_beq_eq_true b6
                rcases cbS h7 with ⟨_, h8⟩ | ⟨_, h8⟩
                · rcases cbS h8 with ⟨_, h9⟩ | ⟨_, h9⟩
                  · rcases cbS h9 with ⟨_, h10⟩ | ⟨_, h10⟩
                    · rcases cbS h10 with ⟨b10, h11⟩ | ⟨_, h11⟩
                      · obtain rfl := Nat.eq_of_beq_eq_true b10
                        rcases cbS h11 with ⟨b11, h12⟩ | ⟨_, h12⟩
                        · obtain rfl := Nat.eq_of_beq_eq_true b11
                          cases h12
                          decide
                        · cases h12
                      · cases h11
                    · rcases cbS h10 with ⟨b10, h11⟩ | ⟨_, h11⟩
                      · obtain rfl := Nat.eq_of_beq_eq_true b10
                        rcases cbS h11 with ⟨b11, h12⟩ | ⟨_, h12⟩
                        · obtain rfl := Nat.eq_of_beq_eq_true b11
                          cases h12
                          decide
                        · cases h12
                      · cases h11
                  · rcases cbS h9 with ⟨_, h10⟩ | ⟨_, h10⟩
                    · rcases cbS h10 with ⟨b10, h11⟩ | ⟨_, h11⟩
                      · obtain rfl := Nat.eq_of_beq_eq_true b10
                        rcases cbS h11 with ⟨b11, h12⟩ | ⟨_, h12⟩
                        · obtain rfl := Nat.eq_of_beq_eq_true b11
                          cases h12
                          decide
                        · cases h12
                      · cases h11
                    · rcases cbS h10 with ⟨_, h11⟩ | ⟨_, h11⟩
                      · rcases cbS h11 with ⟨b11, h12⟩ | ⟨_, h12⟩
                        · obtain rfl := Nat.eq_of_beq_eq_true b11
                          rcases cbS h12 with ⟨b12, h13⟩ | ⟨_, h13⟩
                          · obtain rfl := Nat.eq_of_beq_eq_true b12
                            cases h13
                            decide
                          · cases h13
                        · cases h12
                      · rcases cbS h11 with ⟨b11, h12⟩ | ⟨_, h12⟩
                        · obtain rfl := Nat.eq_of_beq_eq_true b11
                          rcases cbS h12 with ⟨b12, h13⟩ | ⟨_, h13⟩
                          · obtain rfl := Nat.eq_of_beq_eq_true b12
                            cases h13
                            decide
                          · cases h13
                        · cases h12
                · rcases cbS h8 with ⟨_, h9⟩ | ⟨_, h9⟩
                  · rcases cbS h9 with ⟨_, h10⟩ | ⟨_, h10⟩
                    · rcases cbS h10 with ⟨b10, h11⟩ | ⟨_, h11⟩
                      · obtain rfl := Nat.eq_of_beq_eq_true b10
                        rcases cbS h11 with ⟨b11, h12⟩ | ⟨_, h12⟩
                        · obtain rfl := Nat.eq_of_beq_eq_true b11
                          cases h12
                          decide
                        · cases h12
                      · cases h11
                    · rcases cbS h10 with ⟨_, h11⟩ | ⟨_, h11⟩
                      · rcases cbS h11 with ⟨b11, h12⟩ | ⟨_, h12⟩
                        · obtain rfl := Nat.eq_of_beq_eq_true b11
                          rcases cbS h12 with ⟨b12, h13⟩ | ⟨_, h13⟩
                          · obtain rfl := Nat.eq_of_beq_eq_true b12
                            cases h13
                            decide
                          · cases h13
                        · cases h12
                      · rcases cbS h11 with ⟨b11, h12⟩ | ⟨_, h12⟩
                        · obtain rfl := Nat.eq_of_beq_eq_true b11
                          rcases cbS h12 with ⟨b12, h13⟩ | ⟨_, h13⟩
                          · obtain rfl := Nat.eq_of_beq_eq_true b12
                            cases h13
                            decide
                          · cases h13
                        · cases h12
                  · rcases cbS h9 with ⟨_, h10⟩ | ⟨_, h10⟩
                    · rcases cbS h10 with ⟨b10, h11⟩ | ⟨_, h11⟩
                      · obtain rfl := Nat.eq_of_beq_eq_true b10
                        rcases cbS h11 with ⟨b11, h12⟩ | ⟨_, h12⟩
                        · obtain rfl := Nat.eq_of_beq_eq_true b11
                          cases h12
                          decide
                        · cases h12
                      · cases h11
                    · rcases cbS h10 with ⟨_, h11⟩ | ⟨_, h11⟩
                      · rcases cbS h11 with ⟨b11, h12⟩ | ⟨_, h12⟩
                        · obtain rfl := Nat.eq_of_beq_eq_true b11
                          rcases cbS h12 with ⟨b12, h13⟩ | ⟨_, h13⟩
                          · obtain rfl := Nat.eq_of_beq_eq_true b12
                            cases h13
                            decide
                          · cases h13
                        · cases h12
                      · rcases cbS h11 with ⟨b11, h12⟩ | ⟨_, h12⟩
                        · obtain rfl := Nat.eq_of_beq_eq_true b11
                          rcases cbS h12 with ⟨b12, h13⟩ | ⟨_, h13⟩
                          · obtain rfl := Nat.eq_of_beq_eq_true b12
                            cases h13
                            decide
                          · cases h13
                        · cases h12
              · cases h7
            · rcases cbS h6 with ⟨b6, h7⟩ | ⟨_, h7⟩
              · obtain rfl := Nat.eq_of_beq_eq_true b6
                rcases cbS h7 with ⟨_, h8⟩ | ⟨_, h8⟩
                · rcases cbS h8 with ⟨_, h9⟩ | ⟨_, h9⟩
                  · rcases cbS h9 with ⟨_, h10⟩ | ⟨_, h10⟩
                    · rcases cbS h10 with ⟨_, h11⟩ | ⟨_, h11⟩
                      · rcases cbS h11 with ⟨b11, h12⟩ | ⟨_, h12⟩
                        · obtain rfl := Nat.eq_of_beq_eq_true b11
                          rcases cbS h12 with ⟨b12, h13⟩ | ⟨_, h13⟩
                          · obtain rfl := Nat.eq_of_beq_eq_true b12
                            cases h13
                            decide
                          · cases h13
                        · cases h12
                      · rcases cbS h11 with ⟨_, h12⟩ | ⟨_, h12⟩
                        · rcases cbS h12 with ⟨b12, h13⟩ | ⟨_, h13⟩
                          · obtain rfl := Nat.eq_of_beq_eq_true b12
                            rcases cbS h13 with ⟨b13, h14⟩ | ⟨_, h14⟩
                            · obtain rfl := Nat.eq_of_beq_eq_true b13
                              cases h14
                              decide
                            · cases h14
                          · cases h13
                        · rcases cbS h12 with ⟨b12, h13⟩ | ⟨_, h13⟩
                          · obtain rfl := Nat.eq_of_beq_eq_true b12
                            rcases cbS h13 with ⟨b13, h14⟩ | ⟨_, h14⟩
                            · obtain rfl := Nat.eq_of_beq_eq_true b13
                              cases h14
                              decide
                            · cases h14
                          · cases h13
                    · rcases cbS h10 with ⟨_, h11⟩ | ⟨_, h11⟩
                      · rcases cbS h11 with ⟨_, h12⟩ | ⟨_, h12⟩
                        · rcases cbS h12 with ⟨b12, h13⟩ | ⟨_, h13⟩
                          · obtain rfl := Nat.eq_of_beq_eq_true b12
                            rcases cbS h13 with ⟨b13, h14⟩ | ⟨_, h14⟩
                            · obtain rfl := Nat.eq_of_beq_eq_true b13
                              cases h14
                              decide
                            · cases h14
                          · cases h13
                        · rcases cbS h12 with ⟨b12, h13⟩ | ⟨_, h13⟩
                          · obtain rfl := Nat.eq_of_beq_eq_true b12
                            rcases cbS h13 with ⟨b13, h14⟩ | ⟨_, h14⟩
                            · obtain rfl := Nat.eq_of_beq_eq_true b13
                              cases h14
                              decide
                            · cases h14
                          · cases h13
                      · rcases cbS h11 with ⟨_, h12⟩ | ⟨_, h12⟩
                        · rcases cbS h12 with ⟨b12, h13⟩ | ⟨_, h13⟩
                          · obtain rfl := Nat.eq_of_beq_eq_true b12
                            rcases cbS h13 with ⟨b13, h14⟩ | ⟨_, h14⟩
                            · obtain rfl := Nat.eq_of_beq_eq_true b13
                              cases h14
                              decide
                            · cases h14
                          · cases h13
                        · rcases cbS h12 with ⟨b12, h13⟩ | ⟨_, h13⟩
                          · obtain rfl := Nat.eq_of_beq_eq_true b12
                            rcases cbS h13 with ⟨b13, h14⟩ | ⟨_, h14⟩
                            · obtain rfl := Nat.eq_of_beq_eq_true b13
                              cases h14
                              decide
                            · cases h14
                          · cases h13
                  · rcases cbS h9 with ⟨_, h10⟩ | ⟨_, h10⟩
                    · rcases cbS h10 with ⟨_, h11⟩ | ⟨_, h11⟩
                      · rcases cbS h11 with ⟨b11, h12⟩ | ⟨_, h12⟩
                        · obtain rfl := Nat.eq_of_beq_eq_true b11
                          rcases cbS h12 with ⟨b12, h13⟩ | ⟨_, h13⟩
                          · obtain rfl := Nat.eq_of_beq_eq_true b12
                            cases h13
                            decide
                          · cases h13
                        · cases h12
                      · rcases cbS h11 with ⟨_, h12⟩ | ⟨_, h12⟩
                        · rcases cbS h12 with ⟨b12, h13⟩ | ⟨_, h13⟩
                          · obtain rfl := Nat.eq_of_beq_eq_true b12
                            rcases cbS h13 with ⟨b13, h14⟩ | ⟨_, h14⟩
                            · obtain rfl := Nat.eq_of_beq_eq_true b13
                              cases h14
                              decide
                            · cases h14
                          · cases h13
                        · rcases cbS h12 with ⟨b12, h13⟩ | ⟨_, h13⟩
                          · obtain rfl := Nat.eq_of_beq_eq_true b12
                            rcases cbS h13 with ⟨b13, h14⟩ | ⟨_, h14⟩
                            · obtain rfl := Nat.eq_of_beq_eq_true b13
                              cases h14
                              decide
                            · cases h14
                          · cases h13
                    · rcases cbS h10 with ⟨_, h11⟩ | ⟨_, h11⟩
                      · rcases cbS h11 with ⟨_, h12⟩ | ⟨_, h12⟩
                        · rcases cbS h12 with ⟨b12, h13⟩ | ⟨_, h13⟩
                          · obtain rfl := Nat.eq_of_beq_eq_true b12
                            rcases cbS h13 with ⟨b13, h14⟩ | ⟨_, h14⟩
                            · obtain rfl := Nat.eq_of_beq_eq_true b13
                              cases h14
                              decide
                            · cases h14
                          · cases h13
                        · rcases cbS h12 with ⟨b12, h13⟩ | ⟨_, h13⟩
                          · obtain rfl := Nat.eq_of_beq_eq_true b12
                            rcases cbS h13 with ⟨b13, h14⟩ | ⟨_, h14⟩
                            · obtain rfl := Nat.eq_of_beq_eq_true b13
                              cases h14
                              decide
                            · cases h14
                          · cases h13
                      · rcases cbS h11 with ⟨_, h12⟩ | ⟨_, h12⟩
                        · rcases cbS h12 with ⟨b12, h13⟩ | ⟨_, h13⟩
                          · obtain rfl := Nat.eq_of_beq_eq_true b12
                            rcases cbS h13 with ⟨b13, h14⟩ | ⟨_, h14⟩
                            · obtain rfl := Nat.eq_of_beq_eq_true b13
                              cases h14
                              decide
                            · cases h14
                          · cases h13
                        · rcases cbS h12 with ⟨b12, h13⟩ | ⟨_, h13⟩
                          · obtain rfl := Nat.eq_of_beq_eq_true b12
                            rcases cbS h13 with ⟨b13, h14⟩ | ⟨_, h14⟩
                            · obtain rfl := Nat.eq_of_beq_eq_true b13
                              cases h14
                              decide
                            · cases h14
                          · cases h13
                · rcases cbS h8 with ⟨_, h9⟩ | ⟨_, h9⟩
                  · rcases cbS h9 with ⟨_, h10⟩ | ⟨_, h10⟩
                    · rcases cbS h10 with ⟨_, h11⟩ | ⟨_, h11⟩
                      · rcases cbS h11 with ⟨b11, h12⟩ | ⟨_, h12⟩
                        · obtain rfl := Nat.eq_of_beq_eq_true b11
                          rcases cbS h12 with ⟨b12, h13⟩ | ⟨_, h13⟩
                          · obtain rfl := Nat.eq_of_beq_eq_true b12
                            cases h13
                            decide
                          · cases h13
                        · cases h12
                      · rcases cbS h11 with ⟨_, h12⟩ | ⟨_, h12⟩
                        · rcases cbS h12 with ⟨b12, h13⟩ | ⟨_, h13⟩
                          · obtain rfl := Nat.eq_of_beq_eq_true b12
                            rcases cbS h13 with ⟨b13, h14⟩ | ⟨_, h14⟩
                            · obtain rfl := Nat.eq_of_beq_eq_true b13
                              cases h14
                              decide
                            · cases h14
                          · cases h13
                        · rcases cbS h12 with ⟨b12, h13⟩ | ⟨_, h13⟩
                          · obtain rfl := Nat.eq_of_beq_eq_true b12
                            rcases cbS h13 with ⟨b13, h14⟩ | ⟨_, h14⟩
                            · obtain rfl := Nat.eq_of_beq_eq_true b13
                              cases h14
                              decide
                            · cases h14
                          · cases h13
                    · rcases cbS h10 with ⟨_, h11⟩ | ⟨_, h11⟩
                      · rcases cbS h11 with ⟨_, h12⟩ | ⟨_, h12⟩
                        · rcases cbS h12 with ⟨b12, h13⟩ | ⟨_, h13⟩
                          · obtain rfl := Nat.eq_of_beq_eq_true b12
                            rcases cbS h13 with ⟨b13, h14⟩ | ⟨_, h14⟩
                            · obtain rfl := Nat.eq_of_beq_eq_true b13
                              cases h14
                              decide
                            · cases h14
                          · cases h13
                        · rcases cbS h12 with ⟨b12, h13⟩ | ⟨_, h13⟩
                          · obtain rfl := Nat.eq_of_beq_eq_true b12
                            rcases cbS h13 with ⟨b13, h14⟩ | ⟨_, h14⟩
                            · obtain rfl := Nat.eq_of_beq_eq_true b13
                              cases h14
                              decide
                            · cases h14
                          · cases h13
                      · rcases cbS h11 with ⟨_, h12⟩ | ⟨_, h12⟩
                        · rcases cbS h12 with ⟨b12, h13⟩ | ⟨_, h13⟩
                          · obtain rfl := Nat.eq_of_beq_eq_true b12
                            rcases cbS h13 with ⟨b13, h14⟩ | ⟨_, h14⟩
                            · obtain rfl := Nat.eq_of_beq_eq_true b13
                              cases h14
                              decide
                            · cases h14
                          · cases h13
                        · rcases cbS h12 with ⟨b12, h13⟩ | ⟨_, h13⟩
                          · obtain rfl := Nat.eq_of_beq_eq_true b12
                            rcases cbS h13 with ⟨b13, h14⟩ | ⟨_, h14⟩
                            · obtain rfl := Nat.eq_of_beq_eq_true b13
                              cases h14
                              decide
                            · cases h14
                          · cases h13
                  · rcases cbS h9 with ⟨_, h10⟩ | ⟨_, h10⟩
                    · rcases cbS h10 with ⟨_, h11⟩ | ⟨_, h11⟩
                      · rcases cbS h11 with ⟨_, h12⟩ | ⟨_, h12⟩
                        · rcases cbS h12 with ⟨b12, h13⟩ | ⟨_, h13⟩
                          · obtain rfl := Nat.eq_of_beq_eq_true b12
                            rcases cbS h13 with ⟨b13, h14⟩ | ⟨_, h14⟩
                            · obtain rfl := Nat.eq_of_beq_eq_true b13
                              cases h14
                              decide
                            · cases h14
                          · cases h13
                        · rcases cbS h12 with ⟨b12, h13⟩ | ⟨_, h13⟩
                          · obtain rfl := Nat.eq_of_beq_eq_true b12
                            rcases cbS h13 with ⟨b13, h14⟩ | ⟨_, h14⟩
                            · obtain rfl := Nat.eq_of_beq_eq_true b13
                              cases h14
                              decide
                            · cases h14
                          · cases h13
                      · rcases cbS h11 with ⟨_, h12⟩ | ⟨_, h12⟩
                        · rcases cbS h12 with ⟨b12, h13⟩ | ⟨_, h13⟩
                          · obtain rfl := Nat.eq_of_beq_eq_true b12
                            rcases cbS h13 with ⟨b13, h14⟩ | ⟨_, h14⟩
                            · obtain rfl := Nat.eq_of_beq_eq_true b13
                              cases h14
                              decide
                            · cases h14
                          · cases h13
                        · rcases cbS h12 with ⟨b12, h13⟩ | ⟨_, h13⟩
                          · obtain rfl := Nat.eq_of_beq_eq_true b12
                            rcases cbS h13 with ⟨b13, h14⟩ | ⟨_, h14⟩
                            · obtain rfl := Nat.eq_of_beq_eq_true b13
                              cases h14
                              decide
                            · cases h14
                          · cases h13
                    · rcases cbS h10 with ⟨_, h11⟩ | ⟨_, h11⟩
                      · rcases cbS h11 with ⟨_, h12⟩ | ⟨_, h12⟩
                        · rcases cbS h12 with ⟨b12, h13⟩ | ⟨_, h13⟩
                          · obtain rfl := Nat.eq_of_beq_eq_true b12
                            rcases cbS h13 with ⟨b13, h14⟩ | ⟨_, h14⟩
                            · obtain rfl := Nat.eq_of_beq_eq_true b13
                              cases h14
                              decide
                            · cases h14
                          · cases h13
                        · rcases cbS h12 with ⟨b12, h13⟩ | ⟨_, h13⟩
                          · obtain rfl := Nat.eq_of_beq_eq_true b12
                            rcases cbS h13 with ⟨b13, h14⟩ | ⟨_, h14⟩
                            · obtain rfl := Nat.eq_of_beq_eq_true b13
                              cases h14
                              decide
                            · cases h14
                          · cases h13
                      · rcases cbS h11 with ⟨_, h12⟩ | ⟨_, h12⟩
                        · rcases cbS h12 with ⟨b12, h13⟩ | ⟨_, h13⟩
                          · obtain rfl := Nat.eq_of_beq_eq_true b12
                            rcases cbS h13 with ⟨b13, h14⟩ | ⟨_, h14⟩
                            · obtain rfl := Nat.eq_of_beq_eq_true b13
                              cases h14
                              decide
                            · cases h14
                          · cases h13
                        · rcases cbS h12 with ⟨b12, h13⟩ | ⟨_, h13⟩
                          · obtain rfl := Nat.eq_of_beq_eq_true b12
                            rcases cbS h13 with ⟨b13, h14⟩ | ⟨_, h14⟩
                            · obtain rfl := Nat.eq_of_beq_eq_true b13
                              cases h14
                              decide
                            · cases h14
                          · cases h13
              · cases h7
theorem x_fin_of {R : x_M (Option Nat)} (h : ∀ e ∈ x_FL, R e.1 e.2.1 e.2.2.1 = some e.2.2.2) : x_fin R := fun _ _ _ _ hf => h _ (ft_mem hf)
abbrev x_I0 : x_M Int32 := fun _ _ _ => 0
abbrev x_J0 : x_M Int64 := fun _ _ _ => 0
abbrev x_R0 : x_M (Option Nat) := fun _ _ _ => none
/-- the trees at the start -/
def T0 : x_T := tAddK (tAddD tNil (lI 116)) (lI 109)
def bkF (I : x_M Int32) (J : x_M Int64) (R : x_M (Option Nat)) : Prop := (∀ e ∈ x_FLb, R e.1 e.2.1 e.2.2.1 = some e.2.2.2) ∧ R 1007 0 0 = some 98 ∧ R 1008 0 0 = some 110 ∧ sl R (fun b j => 30 + 9 * j + 3 * b) ∧ soR R 91 92 ∧ ct I J 98 T0 ∧ stP I 98 T0 1 ∧ nuP I 98 nuNil ∧ frP (fun _ a _ => 98 ≤ a ∧ a ≤ 121) x_I0 I ∧ frP (fun _ a _ => 98 ≤ a ∧ a ≤ 121) x_J0 J
section
variable {E : x_E} {P : x_Pr} {d : Nat} {Q : x_Q}
theorem n_book (hP : x_closed E P) (k : ∀ I' J' R', bkF I' J' R' → Q none (x_hk 122 (kpn 122) I' J' R')) : P 0 (d + 4) 0 (x_la 0 [.ref 0]) [] (x_hk 1 (kpn 1) x_I0 x_J0 x_R0) 121 15174 Q := by
  first | refine x_aload_n hP rfl rfl ?_ | refine x_aload_nN hP rfl rfl ?_
  refine x_objI hP rfl (by decide) ?_
  first | refine x_aload_n hP rfl rfl ?_ | refine x_aload_nN hP rfl rfl ?_
  refine x_newc (q := 1) (N := 4) hP rfl rfl rfl (by decide) (by omega) (by omega) ?_
  refine w_new (m := 2) rfl rfl ?_
  refine x_dup hP rfl rfl ?_
  refine x_callI0 hP 1 2000 rfl rfl rfl rfl rfl (by omega) (by omega) ?_
  refine n_Tape hP ?_
  refine x_putR hP rfl (by first | assumption | rfl) ?_
  first | refine w_nI ?_ | refine w_nL ?_ | refine w_nR ?_ | refine w_mI ?_ | refine w_mL ?_ | refine w_mR ?_ | skip
  first | refine x_aload_n hP rfl rfl ?_ | refine x_aload_nN hP rfl rfl ?_
  refine x_newc (q := 3) (N := 1) hP rfl rfl rfl (by decide) (by omega) (by omega) ?_
  refine w_new (m := 4) rfl rfl ?_
  refine x_dup hP rfl rfl ?_
  refine x_callI0 hP 0 0 rfl rfl rfl rfl rfl (by omega) (by omega) ?_
  refine n_TreeReader hP ?_
  refine x_putR hP rfl (by first | assumption | rfl) ?_
  first | refine w_nI ?_ | refine w_nL ?_ | refine w_nR ?_ | refine w_mI ?_ | refine w_mL ?_ | refine w_mR ?_ | skip
  first | refine x_aload_n hP rfl rfl ?_ | refine x_aload_nN hP rfl rfl ?_
  refine x_newc (q := 4) (N := 4) hP rfl rfl rfl (by decide) (by omega) (by omega) ?_
  refine w_new (m := 5) rfl rfl ?_
  refine x_dup hP rfl rfl ?_
  refine x_callI0 hP 2 204 rfl rfl rfl rfl rfl (by omega) (by omega) ?_
  refine n_row (r := 4) (m1 := 5) (m2 := 6) (m3 := 7) hP rfl rfl rfl rfl rfl rfl (by decide) ?_
  refine x_putR hP rfl (by first | assumption | rfl) ?_
  first | refine w_nI ?_ | refine w_nL ?_ | refine w_nR ?_ | refine w_mI ?_ | refine w_mL ?_ | refine w_mR ?_ | skip
  first | refine x_aload_n hP rfl rfl ?_ | refine x_aload_nN hP rfl rfl ?_
  refine x_bipush hP rfl ?_
  refine x_newq (q := 7) (N := 6) hP rfl (by decide) (by decide) (by decide) rfl (by decide) (by omega) (by omega) ?_
  refine w_new (m := 8) rfl rfl ?_
  refine x_putR hP rfl (by first | assumption | rfl) ?_
  first | refine w_nI ?_ | refine w_nL ?_ | refine w_nR ?_ | refine w_mI ?_ | refine w_mL ?_ | refine w_mR ?_ | skip
  refine x_iconst hP rfl ?_
  refine x_istore_n hP rfl ?_
  refine x_re hP [some (.ref 0), some (.int (iI (0 : Nat)))] ⟨rfl, rfl, trivial⟩ ?_
  refine x_iload_n hP rfl rfl ?_
  refine x_bipush hP rfl ?_
  refine z_icmp_ge hP rfl (by omega) (by omega) (fun c51 => ?_) (fun c51 => ?_)
  · omega
  first | refine x_aload_n hP rfl rfl ?_ | refine x_aload_nN hP rfl rfl ?_
  refine x_getR hP rfl (by first | assumption | rfl) (by first | assumption | exact hR _ _ _ _ rfl | exact hR1 _ _ _ _ rfl | exact hR2 _ _ _ _ rfl | rfl) ?_
  refine x_iload_n hP rfl rfl ?_
  refine x_newc (q := 8) (N := 4) hP rfl rfl rfl (by decide) (by omega) (by omega) ?_
  refine w_new (m := 9) rfl rfl ?_
  refine x_dup hP rfl rfl ?_
  refine x_callI0 hP 2 204 rfl rfl rfl rfl rfl (by omega) (by omega) ?_
  refine n_row (r := 8) (m1 := 9) (m2 := 10) (m3 := 11) hP rfl rfl rfl rfl rfl rfl (by decide) ?_
  refine z_aast (ci := 3) hP rfl (by first | assumption | rfl) (by decide) (by omega) (by decide) (by decide) rfl rfl (by first | assumption | rfl) ?_
  first | refine w_nI ?_ | refine w_nL ?_ | refine w_nR ?_ | refine w_mI ?_ | refine w_mL ?_ | refine w_mR ?_ | skip
  rw [Int.toNat_natCast]
  refine z_iinc hP rfl rfl rfl ?_
  refine x_goto hP rfl ?_
  refine x_re hP [some (.ref 0), some (.int (iI (1 : Nat)))] ⟨rfl, rfl, trivial⟩ ?_
  refine x_iload_n hP rfl rfl ?_
  refine x_bipush hP rfl ?_
  refine z_icmp_ge hP rfl (by omega) (by omega) (fun c51 => ?_) (fun c51 => ?_)
  · omega
  first | refine x_aload_n hP rfl rfl ?_ | refine x_aload_nN hP rfl rfl ?_
  refine x_getR hP rfl (by first | assumption | rfl) (by first | assumption | exact hR _ _ _ _ rfl | exact hR1 _ _ _ _ rfl | exact hR2 _ _ _ _ rfl | rfl) ?_
  refine x_iload_n hP rfl rfl ?_
  refine x_newc (q := 11) (N := 4) hP rfl rfl rfl (by decide) (by omega) (by omega) ?_
  refine w_new (m := 12) rfl rfl ?_
  refine x_dup hP rfl rfl ?_
  refine x_callI0 hP 2 204 rfl rfl rfl rfl rfl (by omega) (by omega) ?_
  refine n_row (r := 11) (m1 := 12) (m2 := 13) (m3 := 14) hP rfl rfl rfl rfl rfl rfl (by decide) ?_
  refine z_aast (ci := 3) hP rfl (by first | assumption | rfl) (by decide) (by omega) (by decide) (by decide) rfl rfl (by first | assumption | rfl) ?_
  first | refine w_nI ?_ | refine w_nL ?_ | refine w_nR ?_ | refine w_mI ?_ | refine w_mL ?_ | refine w_mR ?_ | skip
  rw [Int.toNat_natCast]
  refine z_iinc hP rfl rfl rfl ?_
  refine x_goto hP rfl ?_
  refine x_re hP [some (.ref 0), some (.int (iI (2 : Nat)))] ⟨rfl, rfl, trivial⟩ ?_
  refine x_iload_n hP rfl rfl ?_
  refine x_bipush hP rfl ?_
  refine z_icmp_ge hP rfl (by omega) (by omega) (fun c51 => ?_) (fun c51 => ?_)
  · omega
  first | refine x_aload_n hP rfl rfl ?_ | refine x_aload_nN hP rfl rfl ?_
  refine x_getR hP rfl (by first | assumption | rfl) (by first | assumption | exact hR _ _ _ _ rfl | exact hR1 _ _ _ _ rfl | exact hR2 _ _ _ _ rfl | rfl) ?_
  refine x_iload_n hP rfl rfl ?_
  refine x_newc (q := 14) (N := 4) hP rfl rfl rfl (by decide) (by omega) (by omega) ?_
  refine w_new (m := 15) rfl rfl ?_
  refine x_dup hP rfl rfl ?_
  refine x_callI0 hP 2 204 rfl rfl rfl rfl rfl (by omega) (by omega) ?_
  refine n_row (r := 14) (m1 := 15) (m2 := 16) (m3 := 17) hP rfl rfl rfl rfl rfl rfl (by decide) ?_
  refine z_aast (ci := 3) hP rfl (by first | assumption | rfl) (by decide) (by omega) (by decide) (by decide) rfl rfl (by first | assumption | rfl) ?_
  first | refine w_nI ?_ | refine w_nL ?_ | refine w_nR ?_ | refine w_mI ?_ | refine w_mL ?_ | refine w_mR ?_ | skip
  rw [Int.toNat_natCast]
  refine z_iinc hP rfl rfl rfl ?_
  refine x_goto hP rfl ?_
  refine x_re hP [some (.ref 0), some (.int (iI (3 : Nat)))] ⟨rfl, rfl, trivial⟩ ?_
  refine x_iload_n hP rfl rfl ?_
  refine x_bipush hP rfl ?_
  refine z_icmp_ge hP rfl (by omega) (by omega) (fun c51 => ?_) (fun c51 => ?_)
  · omega
  first | refine x_aload_n hP rfl rfl ?_ | refine x_aload_nN hP rfl rfl ?_
  refine x_getR hP rfl (by first | assumption | rfl) (by first | assumption | exact hR _ _ _ _ rfl | exact hR1 _ _ _ _ rfl | exact hR2 _ _ _ _ rfl | rfl) ?_
  refine x_iload_n hP rfl rfl ?_
  refine x_newc (q := 17) (N := 4) hP rfl rfl rfl (by decide) (by omega) (by omega) ?_
  refine w_new (m := 18) rfl rfl ?_
  refine x_dup hP rfl rfl ?_
  refine x_callI0 hP 2 204 rfl rfl rfl rfl rfl (by omega) (by omega) ?_
  refine n_row (r := 17) (m1 := 18) (m2 := 19) (m3 := 20) hP rfl rfl rfl rfl rfl rfl (by decide) ?_
  refine z_aast (ci := 3) hP rfl (by first | assumption | rfl) (by decide) (by omega) (by decide) (by decide) rfl rfl (by first | assumption | rfl) ?_
  first | refine w_nI ?_ | refine w_nL ?_ | refine w_nR ?_ | refine w_mI ?_ | refine w_mL ?_ | refine w_mR ?_ | skip
  rw [Int.toNat_natCast]
  refine z_iinc hP rfl rfl rfl ?_
  refine x_goto hP rfl ?_
  refine x_re hP [some (.ref 0), some (.int (iI (4 : Nat)))] ⟨rfl, rfl, trivial⟩ ?_
  refine x_iload_n hP rfl rfl ?_
  refine x_bipush hP rfl ?_
  refine z_icmp_ge hP rfl (by omega) (by omega) (fun c51 => ?_) (fun c51 => ?_)
  · omega
  first | refine x_aload_n hP rfl rfl ?_ | refine x_aload_nN hP rfl rfl ?_
  refine x_getR hP rfl (by first | assumption | rfl) (by first | assumption | exact hR _ _ _ _ rfl | exact hR1 _ _ _ _ rfl | exact hR2 _ _ _ _ rfl | rfl) ?_
  refine x_iload_n hP rfl rfl ?_
  refine x_newc (q := 20) (N := 4) hP rfl rfl rfl (by decide) (by omega) (by omega) ?_
  refine w_new (m := 21) rfl rfl ?_
  refine x_dup hP rfl rfl ?_
  refine x_callI0 hP 2 204 rfl rfl rfl rfl rfl (by omega) (by omega) ?_
  refine n_row (r := 20) (m1 := 21) (m2 := 22) (m3 := 23) hP rfl rfl rfl rfl rfl rfl (by decide) ?_
  refine z_aast (ci := 3) hP rfl (by first | assumption | rfl) (by decide) (by omega) (by decide) (by decide) rfl rfl (by first | assumption | rfl) ?_
  first | refine w_nI ?_ | refine w_nL ?_ | refine w_nR ?_ | refine w_mI ?_ | refine w_mL ?_ | refine w_mR ?_ | skip
  rw [Int.toNat_natCast]
  refine z_iinc hP rfl rfl rfl ?_
  refine x_goto hP rfl ?_
  refine x_re hP [some (.ref 0), some (.int (iI (5 : Nat)))] ⟨rfl, rfl, trivial⟩ ?_
  refine x_iload_n hP rfl rfl ?_
  refine x_bipush hP rfl ?_
  refine z_icmp_ge hP rfl (by omega) (by omega) (fun c51 => ?_) (fun c51 => ?_)
  · omega
  first | refine x_aload_n hP rfl rfl ?_ | refine x_aload_nN hP rfl rfl ?_
  refine x_getR hP rfl (by first | assumption | rfl) (by first | assumption | exact hR _ _ _ _ rfl | exact hR1 _ _ _ _ rfl | exact hR2 _ _ _ _ rfl | rfl) ?_
  refine x_iload_n hP rfl rfl ?_
  refine x_newc (q := 23) (N := 4) hP rfl rfl rfl (by decide) (by omega) (by omega) ?_
  refine w_new (m := 24) rfl rfl ?_
  refine x_dup hP rfl rfl ?_
  refine x_callI0 hP 2 204 rfl rfl rfl rfl rfl (by omega) (by omega) ?_
  refine n_row (r := 23) (m1 := 24) (m2 := 25) (m3 := 26) hP rfl rfl rfl rfl rfl rfl (by decide) ?_
  refine z_aast (ci := 3) hP rfl (by first | assumption | rfl) (by decide) (by omega) (by decide) (by decide) rfl rfl (by first | assumption | rfl) ?_
  first | refine w_nI ?_ | refine w_nL ?_ | refine w_nR ?_ | refine w_mI ?_ | refine w_mL ?_ | refine w_mR ?_ | skip
  rw [Int.toNat_natCast]
  refine z_iinc hP rfl rfl rfl ?_
  refine x_goto hP rfl ?_
  refine x_re hP [some (.ref 0), some (.int (iI (6 : Nat)))] ⟨rfl, rfl, trivial⟩ ?_
  refine x_iload_n hP rfl rfl ?_
  refine x_bipush hP rfl ?_
  refine z_icmp_ge hP rfl (by omega) (by omega) (fun c51 => ?_) (fun c51 => ?_)
  rotate_left
  · omega
  first | refine x_aload_n hP rfl rfl ?_ | refine x_aload_nN hP rfl rfl ?_
  refine x_newc (q := 26) (N := 14) hP rfl rfl rfl (by decide) (by omega) (by omega) ?_
  refine w_new (m := 27) rfl rfl ?_
  refine x_dup hP rfl rfl ?_
  refine x_callI0 hP 70 5837 rfl rfl rfl rfl rfl (by omega) (by omega) ?_
  refine n_SetReader hP ?_
  refine x_putR hP rfl (by first | assumption | rfl) ?_
  first | refine w_nI ?_ | refine w_nL ?_ | refine w_nR ?_ | refine w_mI ?_ | refine w_mL ?_ | refine w_mR ?_ | skip
  first | refine x_aload_n hP rfl rfl ?_ | refine x_aload_nN hP rfl rfl ?_
  refine x_sipush hP rfl ?_
  refine x_newa (q := 97) (N := 3000) hP rfl (by decide) (by decide) (by decide) rfl (by decide) (by omega) (by omega) ?_
  refine w_new (m := 98) rfl rfl ?_
  refine x_putR hP rfl (by first | assumption | rfl) ?_
  first | refine w_nI ?_ | refine w_nL ?_ | refine w_nR ?_ | refine w_mI ?_ | refine w_mL ?_ | refine w_mR ?_ | skip
  first | refine x_aload_n hP rfl rfl ?_ | refine x_aload_nN hP rfl rfl ?_
  refine x_iconst hP rfl ?_
  refine x_putI hP rfl (by first | assumption | rfl) ?_
  first | refine w_nI ?_ | refine w_nL ?_ | refine w_nR ?_ | refine w_mI ?_ | refine w_mL ?_ | refine w_mR ?_ | skip
  rw [show x_at x_I0 1006 0 0 (iI 0) = x_I0 from x_at_id _ _ _ _ rfl]
  first | refine x_aload_n hP rfl rfl ?_ | refine x_aload_nN hP rfl rfl ?_
  refine x_newc (q := 98) (N := 13) hP rfl rfl rfl (by decide) (by omega) (by omega) ?_
  refine w_new (m := 99) rfl rfl ?_
  refine x_dup hP rfl rfl ?_
  refine x_callI0 hP 11 1415 rfl rfl rfl rfl rfl (by omega) (by omega) ?_
  refine n_Trees98 hP (fun I1 h1 h2 => ?_)
  have ct1 : ct I1 x_J0 98 tNil := ⟨(h2 _ _ _ (by omega)).trans rfl, (h2 _ _ _ (by omega)).trans rfl, fun d hd => absurd hd (Nat.not_lt_zero _), fun d hd => absurd hd (Nat.not_lt_zero _), fun d hd => absurd hd (Nat.not_lt_zero _), twf_nil⟩
  refine x_putR hP rfl (by first | assumption | rfl) ?_
  first | refine w_nI ?_ | refine w_nL ?_ | refine w_nR ?_ | refine w_mI ?_ | refine w_mL ?_ | refine w_mR ?_ | skip
  first | refine x_aload_n hP rfl rfl ?_ | refine x_aload_nN hP rfl rfl ?_
  refine x_getR hP rfl (by first | assumption | rfl) (by first | assumption | exact hR _ _ _ _ rfl | exact hR1 _ _ _ _ rfl | exact hR2 _ _ _ _ rfl | rfl) ?_
  refine x_ldcL hP rfl ?_
  refine x_callV1 (ci := 8) hP 0 0 rfl rfl rfl (by first | assumption | rfl) rfl rfl rfl (Nat.zero_le _) (Nat.zero_le _) ?_
  refine g_addDimension (kd := kpn 110) hP ⟨rfl, rfl, rfl, rfl, rfl, rfl, rfl, rfl, rfl, rfl, rfl, rfl, rfl, rfl, rfl, rfl, rfl, rfl, rfl, rfl, rfl, rfl, rfl⟩ ct1 (by decide) (fun I2 J2 a1 a2 a3 => ?_)
  first | refine x_aload_n hP rfl rfl ?_ | refine x_aload_nN hP rfl rfl ?_
  refine x_getR hP rfl (by first | assumption | rfl) (by first | assumption | exact hR _ _ _ _ rfl | exact hR1 _ _ _ _ rfl | exact hR2 _ _ _ _ rfl | rfl) ?_
  refine x_ldcL hP rfl ?_
  refine x_callV1 (ci := 8) hP 0 0 rfl rfl rfl (by first | assumption | rfl) rfl rfl rfl (Nat.zero_le _) (Nat.zero_le _) ?_
  refine g_addMark (kd := kpn 110) hP ⟨rfl, rfl, rfl, rfl, rfl, rfl, rfl, rfl, rfl, rfl, rfl, rfl, rfl, rfl, rfl, rfl, rfl, rfl, rfl, rfl, rfl, rfl, rfl⟩ a1 (by decide) (fun I3 J3 b1 b2 b3 => ?_)
  first | refine x_aload_n hP rfl rfl ?_ | refine x_aload_nN hP rfl rfl ?_
  refine x_getR hP rfl (by first | assumption | rfl) (by first | assumption | exact hR _ _ _ _ rfl | exact hR1 _ _ _ _ rfl | exact hR2 _ _ _ _ rfl | rfl) ?_
  refine x_callV0 (ci := 8) hP 0 0 rfl rfl rfl (by first | assumption | rfl) rfl rfl rfl (Nat.zero_le _) (Nat.zero_le _) ?_
  refine g_settle (kd := kpn 110) hP ⟨rfl, rfl, rfl, rfl, rfl, rfl, rfl, rfl, rfl, rfl, rfl, rfl, rfl, rfl, rfl, rfl, rfl, rfl, rfl, rfl, rfl, rfl, rfl⟩ b1 (fun I4 c1 c2 c3 c4 => ?_)
  first | refine x_aload_n hP rfl rfl ?_ | refine x_aload_nN hP rfl rfl ?_
  refine x_newc (q := 110) (N := 13) hP rfl rfl rfl (by decide) (by omega) (by omega) ?_
  refine w_new (m := 111) rfl rfl ?_
  refine x_dup hP rfl rfl ?_
  refine x_callI0 hP 11 1415 rfl rfl rfl rfl rfl (by omega) (by omega) ?_
  refine n_Trees110 hP (fun I5 e1 e2 => ?_)
  refine x_putR hP rfl (by first | assumption | rfl) ?_
  first | refine w_nI ?_ | refine w_nL ?_ | refine w_nR ?_ | refine w_mI ?_ | refine w_mL ?_ | refine w_mR ?_ | skip
  refine x_vret hP rfl rfl ?_
  have fI : frP (fun _ a _ => 98 ≤ a ∧ a ≤ 109) x_I0 I4 := frP_trans (frP_mono h2 fun k a i z => by omega) (frP_trans (frP_mono a2 fun k a i z => by unfold gT at z; omega) (frP_trans (frP_mono b2 fun k a i z => by unfold gT at z; omega) (frP_mono c3 fun k a i z => by unfold gT at z; omega)))
  have n109 : ∀ j, j < 384 → I4 1 109 j = iI (-2000000000) := fun j hj => (c4 j).trans ((b2 _ _ _ fun z => by unfold gT at z; omega).trans ((a2 _ _ _ fun z => by unfold gT at z; omega).trans (h1 j hj)))
  refine k I5 J3 _ ⟨by decide +kernel, rfl, rfl, fun b j hb hj => ?_, ⟨Or.inl ⟨rfl, rfl⟩, rfl, rfl⟩, ct_fr c1 e2 (frP_refl _ _) fun k a i z => by omega, stP_fr c2 e2 fun k a i z => by omega, fun m e z hm he hz => ⟨(e2 _ _ _ (by omega)).trans (n109 _ (by omega)), Or.inl rfl⟩, ?_, ?_⟩
  · rcases (by omega : b = 0 ∨ b = 1 ∨ b = 2) with rfl | rfl | rfl <;> rcases (by omega : j = 0 ∨ j = 1 ∨ j = 2 ∨ j = 3 ∨ j = 4 ∨ j = 5) with rfl | rfl | rfl | rfl | rfl | rfl <;> rfl
  · exact frP_trans (frP_mono fI fun k a i z => by omega) (frP_mono e2 fun k a i z => by omega)
  · exact frP_trans (frP_mono a3 fun k a i z => by unfold gT at z; omega) (frP_mono b3 fun k a i z => by unfold gT at z; omega)
end
