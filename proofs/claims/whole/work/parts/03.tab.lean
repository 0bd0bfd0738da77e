/-! the layout of the world, and the tables of links, by program (gen.py) -/
abbrev jx_M : Type := Nat → Nat → Int32
def jx_shL : List (Nat × Nat) := [(7, 10), (10, 4), (6, 5), (3, 4), (9, 8), (9, 8), (9, 8), (2, 1), (9, 6), (0, 6), (9, 6), (9, 6), (9, 4), (5, 4), (9, 20), (9, 6), (1, 9), (9, 5), (9, 5), (9, 6), (9, 6), (9, 6), (1, 9), (9, 5), (9, 5), (9, 6), (9, 6), (9, 6), (4, 4), (9, 60), (4, 4), (9, 60), (4, 4), (9, 60), (4, 4), (9, 60), (8, 31), (9, 4), (9, 4), (9, 240), (9, 5), (9, 5), (9, 6), (9, 6), (9, 6), (9, 5), (9, 5), (9, 6), (9, 6), (9, 6), (9, 6), (9, 6), (9, 6), (9, 8), (9, 8), (9, 8)]
def jx_cl (k : Nat) : Nat := (jx_shL.getD k (99, 0)).1
def jx_sz (k : Nat) : Nat := (jx_shL.getD k (99, 0)).2
set_option maxRecDepth 100000 in
theorem jx_tab : jx_cl 0 = 7 ∧ jx_sz 0 = 10 ∧ jx_cl 1 = 10 ∧ jx_sz 1 = 4 ∧ jx_cl 2 = 6 ∧ jx_sz 2 = 5 ∧ jx_cl 3 = 3 ∧ jx_sz 3 = 4 ∧ jx_cl 4 = 9 ∧ jx_sz 4 = 8 ∧ jx_cl 5 = 9 ∧ jx_sz 5 = 8 ∧ jx_cl 6 = 9 ∧ jx_sz 6 = 8 ∧ jx_cl 7 = 2 ∧ jx_sz 7 = 1 ∧ jx_cl 8 = 9 ∧ jx_sz 8 = 6 ∧ jx_cl 9 = 0 ∧ jx_sz 9 = 6 ∧ jx_cl 10 = 9 ∧ jx_sz 10 = 6 ∧ jx_cl 11 = 9 ∧ jx_sz 11 = 6 ∧ jx_cl 12 = 9 ∧ jx_sz 12 = 4 ∧ jx_cl 13 = 5 ∧ jx_sz 13 = 4 ∧ jx_cl 14 = 9 ∧ jx_sz 14 = 20 ∧ jx_cl 15 = 9 ∧ jx_sz 15 = 6 ∧ jx_cl 16 = 1 ∧ jx_sz 16 = 9 ∧ jx_cl 17 = 9 ∧ jx_sz 17 = 5 ∧ jx_cl 18 = 9 ∧ jx_sz 18 = 5 ∧ jx_cl 19 = 9 ∧ jx_sz 19 = 6 ∧ jx_cl 20 = 9 ∧ jx_sz 20 = 6 ∧ jx_cl 21 = 9 ∧ jx_sz 21 = 6 ∧ jx_cl 22 = 1 ∧ jx_sz 22 = 9 ∧ jx_cl 23 = 9 ∧ jx_sz 23 = 5 ∧ jx_cl 24 = 9 ∧ jx_sz 24 = 5 ∧ jx_cl 25 = 9 ∧ jx_sz 25 = 6 ∧ jx_cl 26 = 9 ∧ jx_sz 26 = 6 ∧ jx_cl 27 = 9 ∧ jx_sz 27 = 6 ∧ jx_cl 28 = 4 ∧ jx_sz 28 = 4 ∧ jx_cl 29 = 9 ∧ jx_sz 29 = 60 ∧ jx_cl 30 = 4 ∧ jx_sz 30 = 4 ∧ jx_cl 31 = 9 ∧ jx_sz 31 = 60 ∧ jx_cl 32 = 4 ∧ jx_sz 32 = 4 ∧ jx_cl 33 = 9 ∧ jx_sz 33 = 60 ∧ jx_cl 34 = 4 ∧ jx_sz 34 = 4 ∧ jx_cl 35 = 9 ∧ jx_sz 35 = 60 ∧ jx_cl 36 = 8 ∧ jx_sz 36 = 31 ∧ jx_cl 37 = 9 ∧ jx_sz 37 = 4 ∧ jx_cl 38 = 9 ∧ jx_sz 38 = 4 ∧ jx_cl 39 = 9 ∧ jx_sz 39 = 240 ∧ jx_cl 40 = 9 ∧ jx_sz 40 = 5 ∧ jx_cl 41 = 9 ∧ jx_sz 41 = 5 ∧ jx_cl 42 = 9 ∧ jx_sz 42 = 6 ∧ jx_cl 43 = 9 ∧ jx_sz 43 = 6 ∧ jx_cl 44 = 9 ∧ jx_sz 44 = 6 ∧ jx_cl 45 = 9 ∧ jx_sz 45 = 5 ∧ jx_cl 46 = 9 ∧ jx_sz 46 = 5 ∧ jx_cl 47 = 9 ∧ jx_sz 47 = 6 ∧ jx_cl 48 = 9 ∧ jx_sz 48 = 6 ∧ jx_cl 49 = 9 ∧ jx_sz 49 = 6 ∧ jx_cl 50 = 9 ∧ jx_sz 50 = 6 ∧ jx_cl 51 = 9 ∧ jx_sz 51 = 6 ∧ jx_cl 52 = 9 ∧ jx_sz 52 = 6 ∧ jx_cl 53 = 9 ∧ jx_sz 53 = 8 ∧ jx_cl 54 = 9 ∧ jx_sz 54 = 8 ∧ jx_cl 55 = 9 ∧ jx_sz 55 = 8 := ⟨rfl, rfl, rfl, rfl, rfl, rfl, rfl, rfl, rfl, rfl, rfl, rfl, rfl, rfl, rfl, rfl, rfl, rfl, rfl, rfl, rfl, rfl, rfl, rfl, rfl, rfl, rfl, rfl, rfl, rfl, rfl, rfl, rfl, rfl, rfl, rfl, rfl, rfl, rfl, rfl, rfl, rfl, rfl, rfl, rfl, rfl, rfl, rfl, rfl, rfl, rfl, rfl, rfl, rfl, rfl, rfl, rfl, rfl, rfl, rfl, rfl, rfl, rfl, rfl, rfl, rfl, rfl, rfl, rfl, rfl, rfl, rfl, rfl, rfl, rfl, rfl, rfl, rfl, rfl, rfl, rfl, rfl, rfl, rfl, rfl, rfl, rfl, rfl, rfl, rfl, rfl, rfl, rfl, rfl, rfl, rfl, rfl, rfl, rfl, rfl, rfl, rfl, rfl, rfl, rfl, rfl, rfl, rfl, rfl, rfl, rfl, rfl⟩
def jx_fkL : List (List Nat) := [[4, 0, 5, 6, 2, 0], [4, 5, 6, 7, 8, 0, 0, 0, 0], [4], [4, 5, 6, 0], [4, 0, 0, 1], [4, 5, 0, 0], [2, 2, 0, 0, 0], [4, 5, 6, 10, 12, 16, 2, 2, 0, 0], [0, 0, 4, 5, 6, 0, 0, 0, 0, 7, 8, 9, 10, 11, 0, 0, 0, 0, 0, 12, 13, 14, 15, 16, 17, 18, 19, 0, 20, 21, 22]]
def jx_fk (ci j : Nat) : Nat := (jx_fkL.getD ci []).getD j 0
def jx_vc (ci : Nat) : vw_C := vwCl.getD ci (RX0, TX0, 6)
abbrev jx_rx (ci : Nat) : String := (jx_vc ci).1
abbrev jx_T (ci : Nat) : u_T := (jx_vc ci).2.1
abbrev jx_N (ci : Nat) : Nat := (jx_vc ci).2.2
def jx_ty (ci : Nat) : Nat → FieldType := match ci with
  | 0 => tyX0
  | 1 => tyX1
  | 2 => tyX2
  | 3 => tyX3
  | 4 => tyX4
  | 5 => tyX5
  | 6 => tyX6
  | 7 => tyX7
  | _ => tyX8
def jx_flT : List (Nat × Nat × Nat × Nat) := [(6, 9, 6, 0), (6, 15, 6, 1), (6, 19, 6, 2), (6, 23, 6, 3), (6, 26, 6, 4), (3, 9, 3, 0), (3, 15, 3, 1), (3, 18, 3, 2), (3, 21, 3, 3), (7, 95, 3, 3), (2, 9, 2, 0), (0, 9, 0, 0), (7, 179, 0, 0), (0, 15, 0, 1), (7, 176, 0, 1), (0, 19, 0, 2), (0, 22, 0, 3), (0, 25, 0, 4), (0, 29, 0, 5), (5, 9, 5, 0), (7, 194, 5, 0), (5, 15, 5, 1), (5, 18, 5, 2), (5, 22, 5, 3), (1, 9, 1, 0), (0, 61, 1, 0), (7, 101, 1, 0), (6, 64, 1, 0), (2, 43, 1, 0), (1, 15, 1, 1), (7, 105, 1, 1), (6, 68, 1, 1), (1, 18, 1, 2), (7, 114, 1, 2), (6, 74, 1, 2), (1, 21, 1, 3), (7, 117, 1, 3), (6, 81, 1, 3), (1, 24, 1, 4), (7, 120, 1, 4), (6, 84, 1, 4), (1, 27, 1, 5), (6, 29, 1, 5), (7, 247, 1, 5), (1, 31, 1, 6), (5, 25, 1, 6), (6, 34, 1, 6), (7, 92, 1, 6), (2, 21, 1, 6), (1, 34, 1, 7), (6, 55, 1, 7), (7, 127, 1, 7), (1, 37, 1, 8), (5, 34, 1, 8), (6, 58, 1, 8), (7, 250, 1, 8), (4, 9, 4, 0), (7, 225, 4, 0), (4, 15, 4, 1), (7, 222, 4, 1), (4, 19, 4, 2), (4, 22, 4, 3), (7, 209, 4, 3), (7, 13, 7, 0), (7, 20, 7, 1), (7, 27, 7, 2), (7, 34, 7, 3), (7, 41, 7, 4), (7, 48, 7, 5), (7, 55, 7, 6), (7, 59, 7, 7), (7, 62, 7, 8), (7, 66, 7, 9), (8, 67, 8, 0), (8, 191, 8, 1), (8, 9, 8, 2), (8, 13, 8, 3), (8, 16, 8, 4), (8, 77, 8, 5), (8, 80, 8, 6), (8, 110, 8, 7), (8, 116, 8, 8), (8, 19, 8, 9), (8, 22, 8, 10), (8, 25, 8, 11), (8, 28, 8, 12), (8, 31, 8, 13), (8, 83, 8, 14), (8, 107, 8, 15), (8, 113, 8, 16), (8, 119, 8, 17), (8, 122, 8, 18), (8, 34, 8, 19), (8, 37, 8, 20), (8, 40, 8, 21), (8, 43, 8, 22), (8, 46, 8, 23), (8, 49, 8, 24), (8, 52, 8, 25), (8, 55, 8, 26), (8, 125, 8, 27), (8, 58, 8, 28), (8, 61, 8, 29), (8, 64, 8, 30)]
def jx_fl (o i : Nat) : Option (Nat × Nat) := (jx_flT.find? (fun e => e.1 == o && e.2.1 == i)).map (fun e => e.2.2)
abbrev mX0_findLeast : Nat := 0
abbrev mX0_settleFrom : Nat := 1
abbrev mX0_harmIn : Nat := 2
abbrev mX0_keepBest : Nat := 3
abbrev mX1_stands : Nat := 4
abbrev mX1_hasPerson : Nat := 5
abbrev mX1_hasClap : Nat := 6
abbrev mX1_isFor : Nat := 7
abbrev mX1_clapsFor : Nat := 8
abbrev mX1_everybody : Nat := 9
abbrev mX1_loudness : Nat := 10
abbrev mX1_takerOf : Nat := 11
abbrev mX2_takeMonths : Nat := 12
abbrev mX2_monthsTaken : Nat := 13
abbrev mX2_harmTo : Nat := 14
abbrev mX2_harmIn : Nat := 15
abbrev mX2_harmToAll : Nat := 16
abbrev mX2_mostHarmed : Nat := 17
abbrev mX3_add : Nat := 18
abbrev mX3_bitIfSo : Nat := 19
abbrev mX4_renew : Nat := 20
abbrev mX4_hasCells : Nat := 21
abbrev mX4_faultOfCells : Nat := 22
abbrev mX4_read : Nat := 23
abbrev mX4_write : Nat := 24
abbrev mX5_measure : Nat := 25
abbrev mX5_takeRow : Nat := 26
abbrev mX5_isClap : Nat := 27
abbrev mX5_firstWrong : Nat := 28
abbrev mX5_fits : Nat := 29
abbrev mX5_fillInOrder : Nat := 30
abbrev mX5_fillFrom : Nat := 31
abbrev mX6_firstFault : Nat := 32
abbrev mX6_readsHead : Nat := 33
abbrev mX6_readsPeople : Nat := 34
abbrev mX6_readsPerson : Nat := 35
abbrev mX6_readsClaps : Nat := 36
abbrev mX6_readsClap : Nat := 37
abbrev mX6_takeKind : Nat := 38
abbrev mX6_kindOf : Nat := 39
abbrev mX6_takeDigit : Nat := 40
abbrev mX6_takes : Nat := 41
abbrev mX6_nextCode : Nat := 42
abbrev mX7_office : Nat := 43
abbrev mX7_takeDraft : Nat := 44
abbrev mX7_ofPerson : Nat := 45
abbrev mX7_ofClap : Nat := 46
abbrev mX7_nerve : Nat := 47
abbrev mX7_damp : Nat := 48
abbrev mX7_send : Nat := 49
abbrev mX7_loud : Nat := 50
abbrev mX7_owner : Nat := 51
abbrev mX7_last : Nat := 52
abbrev mX7_open : Nat := 53
abbrev mX7_isAskedOfOpenings : Nat := 54
abbrev mX7_openingsAnswer : Nat := 55
abbrev mX7_ease : Nat := 56
abbrev mX7_shelf : Nat := 57
abbrev mX7_order : Nat := 58
abbrev mX7_reading : Nat := 59
abbrev mX7_back : Nat := 60
abbrev mX7_sizes : Nat := 61
abbrev mX7_kinds : Nat := 62
abbrev mX7_damps : Nat := 63
abbrev mX7_odds : Nat := 64
abbrev mX7_sheet : Nat := 65
abbrev mX7_lose : Nat := 66
abbrev mX7_put : Nat := 67
abbrev mX7_cell : Nat := 68
abbrev mX7_copy : Nat := 69
abbrev mX7_tell : Nat := 70
abbrev mX7_boomingBody : Nat := 71
abbrev mX7_dryBody : Nat := 72
abbrev mX7_clapBody : Nat := 73
abbrev mX7_leaveInTrace : Nat := 74
abbrev mX7_cork : Nat := 75
abbrev mX7_as : Nat := 76
abbrev mX7_trace : Nat := 77
abbrev mX7_fault : Nat := 78
abbrev mX7_many : Nat := 79
abbrev mX7_isSheet : Nat := 80
abbrev mX7_isLane : Nat := 81
abbrev mX7_isMonth : Nat := 82
abbrev mX7_faultAnswer : Nat := 83
abbrev mX8_fails : Nat := 84
abbrev mX8_lost : Nat := 85
abbrev mX8_within : Nat := 86
abbrev mX8_isSheet : Nat := 87
abbrev mX8_isSort : Nat := 88
abbrev mX8_against : Nat := 89
abbrev mX8_isPerson : Nat := 90
abbrev mX8_isClap : Nat := 91
abbrev mX8_digit : Nat := 92
abbrev mX8_isSign : Nat := 93
abbrev mX8_office : Nat := 94
abbrev mX8_takeOffice : Nat := 95
abbrev mX8_readOffice : Nat := 96
abbrev mX8_readPerson : Nat := 97
abbrev mX8_readClap : Nat := 98
abbrev mX8_clapsOf : Nat := 99
abbrev mX8_ofPerson : Nat := 100
abbrev mX8_ofClap : Nat := 101
abbrev mX8_nerve : Nat := 102
abbrev mX8_damp : Nat := 103
abbrev mX8_send : Nat := 104
abbrev mX8_loudOf : Nat := 105
abbrev mX8_isMonths : Nat := 106
abbrev mX8_loud : Nat := 107
abbrev mX8_ownerOf : Nat := 108
abbrev mX8_owner : Nat := 109
abbrev mX8_last : Nat := 110
abbrev mX8_harmTo : Nat := 111
abbrev mX8_open : Nat := 112
abbrev mX8_tellOpen : Nat := 113
abbrev mX8_findEase : Nat := 114
abbrev mX8_ease : Nat := 115
abbrev mX8_isApart : Nat := 116
abbrev mX8_shelf : Nat := 117
abbrev mX8_mayStand : Nat := 118
abbrev mX8_findOrder : Nat := 119
abbrev mX8_order : Nat := 120
abbrev mX8_reading : Nat := 121
abbrev mX8_back : Nat := 122
abbrev mX8_areSo : Nat := 123
abbrev mX8_sizes : Nat := 124
abbrev mX8_kinds : Nat := 125
abbrev mX8_damps : Nat := 126
abbrev mX8_inLeastTerms : Nat := 127
abbrev mX8_odds : Nat := 128
abbrev mX8_sheet : Nat := 129
abbrev mX8_lose : Nat := 130
abbrev mX8_put : Nat := 131
abbrev mX8_cell : Nat := 132
abbrev mX8_copy : Nat := 133
abbrev mX8_begins : Nat := 134
abbrev mX8_tell : Nat := 135
abbrev mX8_cork : Nat := 136
abbrev mX8_as : Nat := 137
abbrev mX8_trace : Nat := 138
abbrev mX8_fault : Nat := 139
abbrev mX8_many : Nat := 140
def jx_mL : List (MethodName × ByteArray × Nat × Option FieldType × Nat × Bool × Nat) := [(yX0_findLeast, cX0_findLeast, 4, none, 0, false, 2),
  (yX0_settleFrom, cX0_settleFrom, 6, none, 0, true, 3),
  (yX0_harmIn, cX0_harmIn, 2, (some .int), 0, false, 1),
  (yX0_keepBest, cX0_keepBest, 3, none, 0, false, 1),
  (yX1_stands, cX1_stands, 1, (some .boolean), 1, false, 0),
  (yX1_hasPerson, cX1_hasPerson, 2, (some .boolean), 1, false, 1),
  (yX1_hasClap, cX1_hasClap, 2, (some .boolean), 1, false, 1),
  (yX1_isFor, cX1_isFor, 3, (some .boolean), 1, false, 2),
  (yX1_clapsFor, cX1_clapsFor, 4, (some .int), 1, false, 1),
  (yX1_everybody, cX1_everybody, 1, (some .int), 1, false, 0),
  (yX1_loudness, cX1_loudness, 4, (some .int), 1, false, 2),
  (yX1_takerOf, cX1_takerOf, 7, (some .int), 1, false, 3),
  (yX2_takeMonths, cX2_takeMonths, 5, (some .boolean), 2, false, 3),
  (yX2_monthsTaken, cX2_monthsTaken, 4, (some .int), 2, false, 1),
  (yX2_harmTo, cX2_harmTo, 5, (some .int), 2, false, 2),
  (yX2_harmIn, cX2_harmIn, 6, (some .int), 2, false, 3),
  (yX2_harmToAll, cX2_harmToAll, 4, (some .int), 2, false, 1),
  (yX2_mostHarmed, cX2_mostHarmed, 6, (some .int), 2, false, 1),
  (yX3_add, cX3_add, 4, (some .int), 3, false, 3),
  (yX3_bitIfSo, cX3_bitIfSo, 4, (some .int), 3, false, 2),
  (yX4_renew, cX4_renew, 4, none, 4, false, 2),
  (yX4_hasCells, cX4_hasCells, 3, (some .boolean), 4, false, 2),
  (yX4_faultOfCells, cX4_faultOfCells, 4, (some .int), 4, false, 3),
  (yX4_read, cX4_read, 2, (some .int), 4, false, 1),
  (yX4_write, cX4_write, 3, none, 4, false, 2),
  (yX5_measure, cX5_measure, 4, none, 5, false, 2),
  (yX5_takeRow, cX5_takeRow, 5, (some .boolean), 5, false, 3),
  (yX5_isClap, cX5_isClap, 2, (some .boolean), 5, false, 1),
  (yX5_firstWrong, cX5_firstWrong, 4, (some .int), 5, false, 1),
  (yX5_fits, cX5_fits, 5, (some .boolean), 5, false, 3),
  (yX5_fillInOrder, cX5_fillInOrder, 1, (some .boolean), 5, false, 0),
  (yX5_fillFrom, cX5_fillFrom, 4, (some .boolean), 5, true, 3),
  (yX6_firstFault, cX6_firstFault, 6, (some .int), 6, false, 4),
  (yX6_readsHead, cX6_readsHead, 1, (some .boolean), 6, false, 0),
  (yX6_readsPeople, cX6_readsPeople, 2, (some .boolean), 6, false, 0),
  (yX6_readsPerson, cX6_readsPerson, 2, (some .boolean), 6, false, 1),
  (yX6_readsClaps, cX6_readsClaps, 2, (some .boolean), 6, false, 0),
  (yX6_readsClap, cX6_readsClap, 2, (some .boolean), 6, false, 1),
  (yX6_takeKind, cX6_takeKind, 2, (some .int), 6, false, 0),
  (yX6_kindOf, cX6_kindOf, 1, (some .int), 6, true, 1),
  (yX6_takeDigit, cX6_takeDigit, 4, (some .int), 6, false, 2),
  (yX6_takes, cX6_takes, 2, (some .boolean), 6, false, 1),
  (yX6_nextCode, cX6_nextCode, 1, (some .int), 6, false, 0),
  (yX7_office, cX7_office, 7, (some .int), 7, false, 4),
  (yX7_takeDraft, cX7_takeDraft, 2, none, 7, false, 0),
  (yX7_ofPerson, cX7_ofPerson, 3, (some .int), 7, false, 2),
  (yX7_ofClap, cX7_ofClap, 3, (some .int), 7, false, 2),
  (yX7_nerve, cX7_nerve, 4, (some .int), 7, false, 2),
  (yX7_damp, cX7_damp, 3, (some .int), 7, false, 1),
  (yX7_send, cX7_send, 4, (some .int), 7, false, 2),
  (yX7_loud, cX7_loud, 3, (some .int), 7, false, 2),
  (yX7_owner, cX7_owner, 3, (some .int), 7, false, 2),
  (yX7_last, cX7_last, 3, (some .int), 7, false, 1),
  (yX7_open, cX7_open, 7, (some .int), 7, false, 5),
  (yX7_isAskedOfOpenings, cX7_isAskedOfOpenings, 1, (some .boolean), 7, true, 1),
  (yX7_openingsAnswer, cX7_openingsAnswer, 2, (some .int), 7, false, 1),
  (yX7_ease, cX7_ease, 3, (some .int), 7, false, 2),
  (yX7_shelf, cX7_shelf, 7, (some .int), 7, false, 5),
  (yX7_order, cX7_order, 3, (some .int), 7, false, 2),
  (yX7_reading, cX7_reading, 4, (some .int), 7, false, 3),
  (yX7_back, cX7_back, 2, (some .int), 7, false, 1),
  (yX7_sizes, cX7_sizes, 5, (some .int), 7, false, 1),
  (yX7_kinds, cX7_kinds, 5, (some .int), 7, false, 1),
  (yX7_damps, cX7_damps, 4, (some .int), 7, false, 0),
  (yX7_odds, cX7_odds, 8, (some .long), 7, false, 3),
  (yX7_sheet, cX7_sheet, 4, (some .int), 7, false, 3),
  (yX7_lose, cX7_lose, 3, (some .int), 7, false, 1),
  (yX7_put, cX7_put, 4, (some .int), 7, false, 3),
  (yX7_cell, cX7_cell, 4, (some .long), 7, false, 3),
  (yX7_copy, cX7_copy, 8, (some .int), 7, false, 5),
  (yX7_tell, cX7_tell, 2, (some .int), 7, false, 1),
  (yX7_boomingBody, cX7_boomingBody, 3, (some .int), 7, false, 1),
  (yX7_dryBody, cX7_dryBody, 2, (some .int), 7, false, 1),
  (yX7_clapBody, cX7_clapBody, 2, (some .int), 7, false, 1),
  (yX7_leaveInTrace, cX7_leaveInTrace, 2, none, 7, false, 1),
  (yX7_cork, cX7_cork, 3, (some .int), 7, false, 1),
  (yX7_as, cX7_as, 3, (some .int), 7, false, 2),
  (yX7_trace, cX7_trace, 1, (some .int), 7, false, 0),
  (yX7_fault, cX7_fault, 1, (some .int), 7, false, 0),
  (yX7_many, cX7_many, 2, (some .int), 7, false, 1),
  (yX7_isSheet, cX7_isSheet, 1, (some .boolean), 7, true, 1),
  (yX7_isLane, cX7_isLane, 1, (some .boolean), 7, true, 1),
  (yX7_isMonth, cX7_isMonth, 1, (some .boolean), 7, true, 1),
  (yX7_faultAnswer, cX7_faultAnswer, 2, (some .int), 7, false, 1),
  (yX8_fails, cX8_fails, 2, (some .int), 8, false, 1),
  (yX8_lost, cX8_lost, 2, (some .long), 8, false, 1),
  (yX8_within, cX8_within, 3, (some .boolean), 8, true, 3),
  (yX8_isSheet, cX8_isSheet, 1, (some .boolean), 8, true, 1),
  (yX8_isSort, cX8_isSort, 1, (some .boolean), 8, true, 1),
  (yX8_against, cX8_against, 5, (some .int), 8, false, 4),
  (yX8_isPerson, cX8_isPerson, 2, (some .boolean), 8, false, 1),
  (yX8_isClap, cX8_isClap, 2, (some .boolean), 8, false, 1),
  (yX8_digit, cX8_digit, 4, (some .int), 8, false, 3),
  (yX8_isSign, cX8_isSign, 3, (some .boolean), 8, false, 2),
  (yX8_office, cX8_office, 7, (some .int), 8, false, 4),
  (yX8_takeOffice, cX8_takeOffice, 2, none, 8, false, 0),
  (yX8_readOffice, cX8_readOffice, 2, (some .boolean), 8, false, 1),
  (yX8_readPerson, cX8_readPerson, 2, (some .boolean), 8, false, 1),
  (yX8_readClap, cX8_readClap, 3, (some .boolean), 8, false, 1),
  (yX8_clapsOf, cX8_clapsOf, 4, (some .int), 8, false, 1),
  (yX8_ofPerson, cX8_ofPerson, 3, (some .int), 8, false, 2),
  (yX8_ofClap, cX8_ofClap, 3, (some .int), 8, false, 2),
  (yX8_nerve, cX8_nerve, 4, (some .int), 8, false, 2),
  (yX8_damp, cX8_damp, 3, (some .int), 8, false, 1),
  (yX8_send, cX8_send, 4, (some .int), 8, false, 2),
  (yX8_loudOf, cX8_loudOf, 4, (some .int), 8, false, 2),
  (yX8_isMonths, cX8_isMonths, 1, (some .boolean), 8, true, 1),
  (yX8_loud, cX8_loud, 3, (some .int), 8, false, 2),
  (yX8_ownerOf, cX8_ownerOf, 6, (some .int), 8, false, 3),
  (yX8_owner, cX8_owner, 3, (some .int), 8, false, 2),
  (yX8_last, cX8_last, 3, (some .int), 8, false, 1),
  (yX8_harmTo, cX8_harmTo, 6, (some .int), 8, false, 1),
  (yX8_open, cX8_open, 8, (some .int), 8, false, 5),
  (yX8_tellOpen, cX8_tellOpen, 7, (some .int), 8, false, 1),
  (yX8_findEase, cX8_findEase, 9, (some .int), 8, false, 1),
  (yX8_ease, cX8_ease, 4, (some .int), 8, false, 2),
  (yX8_isApart, cX8_isApart, 5, (some .boolean), 8, false, 3),
  (yX8_shelf, cX8_shelf, 11, (some .int), 8, false, 5),
  (yX8_mayStand, cX8_mayStand, 4, (some .boolean), 8, false, 2),
  (yX8_findOrder, cX8_findOrder, 3, (some .boolean), 8, false, 1),
  (yX8_order, cX8_order, 3, (some .int), 8, false, 2),
  (yX8_reading, cX8_reading, 4, (some .int), 8, false, 3),
  (yX8_back, cX8_back, 2, (some .int), 8, false, 1),
  (yX8_areSo, cX8_areSo, 2, (some .boolean), 8, false, 0),
  (yX8_sizes, cX8_sizes, 5, (some .int), 8, false, 1),
  (yX8_kinds, cX8_kinds, 5, (some .int), 8, false, 1),
  (yX8_damps, cX8_damps, 4, (some .int), 8, false, 0),
  (yX8_inLeastTerms, cX8_inLeastTerms, 11, (some .long), 8, true, 3),
  (yX8_odds, cX8_odds, 6, (some .long), 8, false, 3),
  (yX8_sheet, cX8_sheet, 5, (some .int), 8, false, 3),
  (yX8_lose, cX8_lose, 3, (some .int), 8, false, 1),
  (yX8_put, cX8_put, 4, (some .int), 8, false, 3),
  (yX8_cell, cX8_cell, 4, (some .long), 8, false, 3),
  (yX8_copy, cX8_copy, 10, (some .int), 8, false, 5),
  (yX8_begins, cX8_begins, 2, none, 8, false, 1),
  (yX8_tell, cX8_tell, 3, (some .int), 8, false, 1),
  (yX8_cork, cX8_cork, 2, (some .int), 8, false, 1),
  (yX8_as, cX8_as, 3, (some .int), 8, false, 2),
  (yX8_trace, cX8_trace, 1, (some .int), 8, false, 0),
  (yX8_fault, cX8_fault, 1, (some .int), 8, false, 0),
  (yX8_many, cX8_many, 2, (some .int), 8, false, 1)]
def jx_mi (y : Nat) : MethodName × ByteArray × Nat × Option FieldType × Nat × Bool × Nat := jx_mL.getD y (yX0_findLeast, cX0_findLeast, 4, none, 0, false, 2)
abbrev jx_mn (y : Nat) : MethodName := (jx_mi y).1
abbrev jx_mb (y : Nat) : ByteArray := (jx_mi y).2.1
abbrev jx_mx (y : Nat) : Nat := (jx_mi y).2.2.1
abbrev jx_mr (y : Nat) : Option FieldType := (jx_mi y).2.2.2.1
abbrev jx_mo (y : Nat) : Nat := (jx_mi y).2.2.2.2.1
abbrev jx_ms (y : Nat) : Bool := (jx_mi y).2.2.2.2.2.1
abbrev jx_mp (y : Nat) : Nat := (jx_mi y).2.2.2.2.2.2
def jx_mlT : List (Nat × Nat × Nat) := [(7, 70, 80), (7, 74, 81), (7, 77, 22), (4, 26, 21), (7, 81, 83), (7, 85, 32), (6, 37, 33), (6, 47, 41), (6, 87, 42), (6, 94, 23), (6, 51, 40), (6, 41, 34), (6, 61, 35), (6, 44, 36), (6, 71, 37), (6, 77, 38), (6, 90, 39), (7, 89, 44), (7, 98, 5), (7, 108, 8), (1, 44, 7), (1, 40, 6), (7, 111, 6), (7, 123, 4), (7, 130, 82), (7, 133, 10), (7, 137, 9), (7, 141, 11), (1, 48, 10), (1, 52, 5), (7, 144, 54), (7, 147, 12), (2, 15, 23), (7, 151, 55), (7, 154, 16), (2, 51, 14), (2, 27, 15), (2, 31, 7), (2, 35, 10), (2, 39, 5), (7, 158, 13), (7, 161, 17), (7, 164, 14), (7, 168, 7), (7, 172, 0), (0, 35, 1), (0, 39, 3), (0, 43, 7), (0, 49, 10), (0, 53, 2), (0, 57, 5), (7, 182, 25), (5, 35, 10), (7, 185, 26), (5, 38, 23), (5, 44, 27), (7, 188, 28), (5, 48, 29), (7, 191, 30), (5, 55, 31), (7, 197, 18), (7, 200, 19), (3, 25, 10), (7, 205, 20), (7, 213, 21), (7, 216, 24), (7, 219, 23), (7, 234, 71), (7, 243, 74), (7, 237, 72), (7, 240, 73), (8, 86, 87), (8, 73, 86), (8, 90, 88), (8, 93, 89), (8, 97, 84), (8, 101, 96), (8, 128, 93), (8, 132, 92), (8, 136, 97), (8, 139, 98), (8, 104, 95), (8, 142, 90), (8, 145, 99), (8, 148, 91), (8, 151, 106), (8, 154, 105), (8, 158, 108), (8, 161, 113), (8, 164, 111), (8, 167, 114), (8, 170, 116), (8, 176, 119), (8, 173, 118), (8, 179, 123), (8, 187, 85), (8, 194, 134)]
def jx_ml (o i : Nat) : Option Nat := (jx_mlT.find? (fun e => e.1 == o && e.2.1 == i)).map (fun e => e.2.2)
def jx_biT : List (Nat × Nat × Nat) := [(2, 46, 1), (0, 64, 1), (5, 28, 2), (5, 52, 3), (7, 228, 4), (8, 183, 5)]
def jx_bi (o i : Nat) : Nat := ((jx_biT.find? (fun e => e.1 == o && e.2.1 == i)).map (fun e => e.2.2)).getD 0
def jx_TB : List Cond := lw_tbl.filter goodWord
set_option maxRecDepth 100000 in
theorem jx_mem {w : Cond} (i : Nat) (h : lw_tbl[i]? = some w) (hg : goodWord w = true) : w ∈ jx_TB := List.mem_filter.mpr ⟨List.mem_of_getElem? h, hg⟩
set_option maxRecDepth 100000 in
theorem jx_flw : ∀ e ∈ jx_flT, Cond.fieldLink (jx_rx e.1) e.2.1 (jx_T e.2.2.1 e.2.2.2).1 (jx_T e.2.2.1 e.2.2.2).2.1 (jx_T e.2.2.1 e.2.2.2).2.2.1 ∈ jx_TB ∧ e.2.2.1 < 9 ∧ e.2.2.2 < jx_N e.2.2.1 := by
  unfold jx_flT
  refine List.forall_mem_cons.mpr ⟨?_, List.forall_mem_cons.mpr ⟨?_, List.forall_mem_cons.mpr ⟨?_, List.forall_mem_cons.mpr ⟨?_, List.forall_mem_cons.mpr ⟨?_, List.forall_mem_cons.mpr ⟨?_, List.forall_mem_cons.mpr ⟨?_, List.forall_mem_cons.mpr ⟨?_, List.forall_mem_cons.mpr ⟨?_, List.forall_mem_cons.mpr ⟨?_, List.forall_mem_cons.mpr ⟨?_, List.forall_mem_cons.mpr ⟨?_, List.forall_mem_cons.mpr ⟨?_, List.forall_mem_cons.mpr ⟨?_, List.forall_mem_cons.mpr ⟨?_, List.forall_mem_cons.mpr ⟨?_, List.forall_mem_cons.mpr ⟨?_, List.forall_mem_cons.mpr ⟨?_, List.forall_mem_cons.mpr ⟨?_, List.forall_mem_cons.mpr ⟨?_, List.forall_mem_cons.mpr ⟨?_, List.forall_mem_cons.mpr ⟨?_, List.forall_mem_cons.mpr ⟨?_, List.forall_mem_cons.mpr ⟨?_, List.forall_mem_cons.mpr ⟨?_, List.forall_mem_cons.mpr ⟨?_, List.forall_mem_cons.mpr ⟨?_, List.forall_mem_cons.mpr ⟨?_, List.forall_mem_cons.mpr ⟨?_, List.forall_mem_cons.mpr ⟨?_, List.forall_mem_cons.mpr ⟨?_, List.forall_mem_cons.mpr ⟨?_, List.forall_mem_cons.mpr ⟨?_, List.forall_mem_cons.mpr ⟨?_, List.forall_mem_cons.mpr ⟨?_, List.forall_mem_cons.mpr ⟨?_, List.forall_mem_cons.mpr ⟨?_, List.forall_mem_cons.mpr ⟨?_, List.forall_mem_cons.mpr ⟨?_, List.forall_mem_cons.mpr ⟨?_, List.forall_mem_cons.mpr ⟨?_, List.forall_mem_cons.mpr ⟨?_, List.forall_mem_cons.mpr ⟨?_, List.forall_mem_cons.mpr ⟨?_, List.forall_mem_cons.mpr ⟨?_, List.forall_mem_cons.mpr ⟨?_, List.forall_mem_cons.mpr ⟨?_, List.forall_mem_cons.mpr ⟨?_, List.forall_mem_cons.mpr ⟨?_, List.forall_mem_cons.mpr ⟨?_, List.forall_mem_cons.mpr ⟨?_, List.forall_mem_cons.mpr ⟨?_, List.forall_mem_cons.mpr ⟨?_, List.forall_mem_cons.mpr ⟨?_, List.forall_mem_cons.mpr ⟨?_, List.forall_mem_cons.mpr ⟨?_, List.forall_mem_cons.mpr ⟨?_, List.forall_mem_cons.mpr ⟨?_, List.forall_mem_cons.mpr ⟨?_, List.forall_mem_cons.mpr ⟨?_, List.forall_mem_cons.mpr ⟨?_, List.forall_mem_cons.mpr ⟨?_, List.forall_mem_cons.mpr ⟨?_, List.forall_mem_cons.mpr ⟨?_, List.forall_mem_cons.mpr ⟨?_, List.forall_mem_cons.mpr ⟨?_, List.forall_mem_cons.mpr ⟨?_, List.forall_mem_cons.mpr ⟨?_, List.forall_mem_cons.mpr ⟨?_, List.forall_mem_cons.mpr ⟨?_, List.forall_mem_cons.mpr ⟨?_, List.forall_mem_cons.mpr ⟨?_, List.forall_mem_cons.mpr ⟨?_, List.forall_mem_cons.mpr ⟨?_, List.forall_mem_cons.mpr ⟨?_, List.forall_mem_cons.mpr ⟨?_, List.forall_mem_cons.mpr ⟨?_, List.forall_mem_cons.mpr ⟨?_, List.forall_mem_cons.mpr ⟨?_, List.forall_mem_cons.mpr ⟨?_, List.forall_mem_cons.mpr ⟨?_, List.forall_mem_cons.mpr ⟨?_, List.forall_mem_cons.mpr ⟨?_, List.forall_mem_cons.mpr ⟨?_, List.forall_mem_cons.mpr ⟨?_, List.forall_mem_cons.mpr ⟨?_, List.forall_mem_cons.mpr ⟨?_, List.forall_mem_cons.mpr ⟨?_, List.forall_mem_cons.mpr ⟨?_, List.forall_mem_cons.mpr ⟨?_, List.forall_mem_cons.mpr ⟨?_, List.forall_mem_cons.mpr ⟨?_, List.forall_mem_cons.mpr ⟨?_, List.forall_mem_cons.mpr ⟨?_, List.forall_mem_cons.mpr ⟨?_, List.forall_mem_cons.mpr ⟨?_, List.forall_mem_cons.mpr ⟨?_, List.forall_mem_cons.mpr ⟨?_, List.forall_mem_cons.mpr ⟨?_, List.forall_mem_cons.mpr ⟨?_, List.forall_mem_cons.mpr ⟨?_, List.forall_mem_cons.mpr ⟨?_, List.forall_mem_cons.mpr ⟨?_, List.forall_mem_cons.mpr ⟨?_, fun _ h => absurd h List.not_mem_nil⟩⟩⟩⟩⟩⟩⟩⟩⟩⟩⟩⟩⟩⟩⟩⟩⟩⟩⟩⟩⟩⟩⟩⟩⟩⟩⟩⟩⟩⟩⟩⟩⟩⟩⟩⟩⟩⟩⟩⟩⟩⟩⟩⟩⟩⟩⟩⟩⟩⟩⟩⟩⟩⟩⟩⟩⟩⟩⟩⟩⟩⟩⟩⟩⟩⟩⟩⟩⟩⟩⟩⟩⟩⟩⟩⟩⟩⟩⟩⟩⟩⟩⟩⟩⟩⟩⟩⟩⟩⟩⟩⟩⟩⟩⟩⟩⟩⟩⟩⟩⟩⟩⟩⟩
  · exact ⟨jx_mem 71 rfl rfl, by decide, by decide⟩
  · exact ⟨jx_mem 72 rfl rfl, by decide, by decide⟩
  · exact ⟨jx_mem 73 rfl rfl, by decide, by decide⟩
  · exact ⟨jx_mem 74 rfl rfl, by decide, by decide⟩
  · exact ⟨jx_mem 75 rfl rfl, by decide, by decide⟩
  · exact ⟨jx_mem 93 rfl rfl, by decide, by decide⟩
  · exact ⟨jx_mem 94 rfl rfl, by decide, by decide⟩
  · exact ⟨jx_mem 95 rfl rfl, by decide, by decide⟩
  · exact ⟨jx_mem 96 rfl rfl, by decide, by decide⟩
  · exact ⟨jx_mem 97 rfl rfl, by decide, by decide⟩
  · exact ⟨jx_mem 114 rfl rfl, by decide, by decide⟩
  · exact ⟨jx_mem 124 rfl rfl, by decide, by decide⟩
  · exact ⟨jx_mem 125 rfl rfl, by decide, by decide⟩
  · exact ⟨jx_mem 126 rfl rfl, by decide, by decide⟩
  · exact ⟨jx_mem 127 rfl rfl, by decide, by decide⟩
  · exact ⟨jx_mem 128 rfl rfl, by decide, by decide⟩
  · exact ⟨jx_mem 129 rfl rfl, by decide, by decide⟩
  · exact ⟨jx_mem 130 rfl rfl, by decide, by decide⟩
  · exact ⟨jx_mem 131 rfl rfl, by decide, by decide⟩
  · exact ⟨jx_mem 151 rfl rfl, by decide, by decide⟩
  · exact ⟨jx_mem 152 rfl rfl, by decide, by decide⟩
  · exact ⟨jx_mem 153 rfl rfl, by decide, by decide⟩
  · exact ⟨jx_mem 154 rfl rfl, by decide, by decide⟩
  · exact ⟨jx_mem 155 rfl rfl, by decide, by decide⟩
  · exact ⟨jx_mem 171 rfl rfl, by decide, by decide⟩
  · exact ⟨jx_mem 172 rfl rfl, by decide, by decide⟩
  · exact ⟨jx_mem 173 rfl rfl, by decide, by decide⟩
  · exact ⟨jx_mem 174 rfl rfl, by decide, by decide⟩
  · exact ⟨jx_mem 175 rfl rfl, by decide, by decide⟩
  · exact ⟨jx_mem 176 rfl rfl, by decide, by decide⟩
  · exact ⟨jx_mem 177 rfl rfl, by decide, by decide⟩
  · exact ⟨jx_mem 178 rfl rfl, by decide, by decide⟩
  · exact ⟨jx_mem 179 rfl rfl, by decide, by decide⟩
  · exact ⟨jx_mem 180 rfl rfl, by decide, by decide⟩
  · exact ⟨jx_mem 181 rfl rfl, by decide, by decide⟩
  · exact ⟨jx_mem 182 rfl rfl, by decide, by decide⟩
  · exact ⟨jx_mem 183 rfl rfl, by decide, by decide⟩
  · exact ⟨jx_mem 184 rfl rfl, by decide, by decide⟩
  · exact ⟨jx_mem 185 rfl rfl, by decide, by decide⟩
  · exact ⟨jx_mem 186 rfl rfl, by decide, by decide⟩
  · exact ⟨jx_mem 187 rfl rfl, by decide, by decide⟩
  · exact ⟨jx_mem 188 rfl rfl, by decide, by decide⟩
  · exact ⟨jx_mem 189 rfl rfl, by decide, by decide⟩
  · exact ⟨jx_mem 190 rfl rfl, by decide, by decide⟩
  · exact ⟨jx_mem 191 rfl rfl, by decide, by decide⟩
  · exact ⟨jx_mem 192 rfl rfl, by decide, by decide⟩
  · exact ⟨jx_mem 193 rfl rfl, by decide, by decide⟩
  · exact ⟨jx_mem 194 rfl rfl, by decide, by decide⟩
  · exact ⟨jx_mem 195 rfl rfl, by decide, by decide⟩
  · exact ⟨jx_mem 196 rfl rfl, by decide, by decide⟩
  · exact ⟨jx_mem 197 rfl rfl, by decide, by decide⟩
  · exact ⟨jx_mem 198 rfl rfl, by decide, by decide⟩
  · exact ⟨jx_mem 199 rfl rfl, by decide, by decide⟩
  · exact ⟨jx_mem 200 rfl rfl, by decide, by decide⟩
  · exact ⟨jx_mem 201 rfl rfl, by decide, by decide⟩
  · exact ⟨jx_mem 202 rfl rfl, by decide, by decide⟩
  · exact ⟨jx_mem 227 rfl rfl, by decide, by decide⟩
  · exact ⟨jx_mem 228 rfl rfl, by decide, by decide⟩
  · exact ⟨jx_mem 229 rfl rfl, by decide, by decide⟩
  · exact ⟨jx_mem 230 rfl rfl, by decide, by decide⟩
  · exact ⟨jx_mem 231 rfl rfl, by decide, by decide⟩
  · exact ⟨jx_mem 232 rfl rfl, by decide, by decide⟩
  · exact ⟨jx_mem 233 rfl rfl, by decide, by decide⟩
  · exact ⟨jx_mem 243 rfl rfl, by decide, by decide⟩
  · exact ⟨jx_mem 244 rfl rfl, by decide, by decide⟩
  · exact ⟨jx_mem 245 rfl rfl, by decide, by decide⟩
  · exact ⟨jx_mem 246 rfl rfl, by decide, by decide⟩
  · exact ⟨jx_mem 247 rfl rfl, by decide, by decide⟩
  · exact ⟨jx_mem 248 rfl rfl, by decide, by decide⟩
  · exact ⟨jx_mem 249 rfl rfl, by decide, by decide⟩
  · exact ⟨jx_mem 250 rfl rfl, by decide, by decide⟩
  · exact ⟨jx_mem 251 rfl rfl, by decide, by decide⟩
  · exact ⟨jx_mem 252 rfl rfl, by decide, by decide⟩
  · exact ⟨jx_mem 641 rfl rfl, by decide, by decide⟩
  · exact ⟨jx_mem 642 rfl rfl, by decide, by decide⟩
  · exact ⟨jx_mem 643 rfl rfl, by decide, by decide⟩
  · exact ⟨jx_mem 644 rfl rfl, by decide, by decide⟩
  · exact ⟨jx_mem 645 rfl rfl, by decide, by decide⟩
  · exact ⟨jx_mem 646 rfl rfl, by decide, by decide⟩
  · exact ⟨jx_mem 647 rfl rfl, by decide, by decide⟩
  · exact ⟨jx_mem 648 rfl rfl, by decide, by decide⟩
  · exact ⟨jx_mem 649 rfl rfl, by decide, by decide⟩
  · exact ⟨jx_mem 650 rfl rfl, by decide, by decide⟩
  · exact ⟨jx_mem 651 rfl rfl, by decide, by decide⟩
  · exact ⟨jx_mem 652 rfl rfl, by decide, by decide⟩
  · exact ⟨jx_mem 653 rfl rfl, by decide, by decide⟩
  · exact ⟨jx_mem 654 rfl rfl, by decide, by decide⟩
  · exact ⟨jx_mem 655 rfl rfl, by decide, by decide⟩
  · exact ⟨jx_mem 656 rfl rfl, by decide, by decide⟩
  · exact ⟨jx_mem 657 rfl rfl, by decide, by decide⟩
  · exact ⟨jx_mem 658 rfl rfl, by decide, by decide⟩
  · exact ⟨jx_mem 659 rfl rfl, by decide, by decide⟩
  · exact ⟨jx_mem 660 rfl rfl, by decide, by decide⟩
  · exact ⟨jx_mem 661 rfl rfl, by decide, by decide⟩
  · exact ⟨jx_mem 662 rfl rfl, by decide, by decide⟩
  · exact ⟨jx_mem 663 rfl rfl, by decide, by decide⟩
  · exact ⟨jx_mem 664 rfl rfl, by decide, by decide⟩
  · exact ⟨jx_mem 665 rfl rfl, by decide, by decide⟩
  · exact ⟨jx_mem 666 rfl rfl, by decide, by decide⟩
  · exact ⟨jx_mem 667 rfl rfl, by decide, by decide⟩
  · exact ⟨jx_mem 668 rfl rfl, by decide, by decide⟩
  · exact ⟨jx_mem 669 rfl rfl, by decide, by decide⟩
  · exact ⟨jx_mem 670 rfl rfl, by decide, by decide⟩
  · exact ⟨jx_mem 671 rfl rfl, by decide, by decide⟩
set_option maxRecDepth 100000 in
theorem jx_mlw : ∀ e ∈ jx_mlT, Cond.methodLink (jx_rx e.1) e.2.1 (jx_mn e.2.2) ∈ jx_TB ∧ e.2.2 < 141 := by
  unfold jx_mlT
  refine List.forall_mem_cons.mpr ⟨?_, List.forall_mem_cons.mpr ⟨?_, List.forall_mem_cons.mpr ⟨?_, List.forall_mem_cons.mpr ⟨?_, List.forall_mem_cons.mpr ⟨?_, List.forall_mem_cons.mpr ⟨?_, List.forall_mem_cons.mpr ⟨?_, List.forall_mem_cons.mpr ⟨?_, List.forall_mem_cons.mpr ⟨?_, List.forall_mem_cons.mpr ⟨?_, List.forall_mem_cons.mpr ⟨?_, List.forall_mem_cons.mpr ⟨?_, List.forall_mem_cons.mpr ⟨?_, List.forall_mem_cons.mpr ⟨?_, List.forall_mem_cons.mpr ⟨?_, List.forall_mem_cons.mpr ⟨?_, List.forall_mem_cons.mpr ⟨?_, List.forall_mem_cons.mpr ⟨?_, List.forall_mem_cons.mpr ⟨?_, List.forall_mem_cons.mpr ⟨?_, List.forall_mem_cons.mpr ⟨?_, List.forall_mem_cons.mpr ⟨?_, List.forall_mem_cons.mpr ⟨?_, List.forall_mem_cons.mpr ⟨?_, List.forall_mem_cons.mpr ⟨?_, List.forall_mem_cons.mpr ⟨?_, List.forall_mem_cons.mpr ⟨?_, List.forall_mem_cons.mpr ⟨?_, List.forall_mem_cons.mpr ⟨?_, List.forall_mem_cons.mpr ⟨?_, List.forall_mem_cons.mpr ⟨?_, List.forall_mem_cons.mpr ⟨?_, List.forall_mem_cons.mpr ⟨?_, List.forall_mem_cons.mpr ⟨?_, List.forall_mem_cons.mpr ⟨?_, List.forall_mem_cons.mpr ⟨?_, List.forall_mem_cons.mpr ⟨?_, List.forall_mem_cons.mpr ⟨?_, List.forall_mem_cons.mpr ⟨?_, List.forall_mem_cons.mpr ⟨?_, List.forall_mem_cons.mpr ⟨?_, List.forall_mem_cons.mpr ⟨?_, List.forall_mem_cons.mpr ⟨?_, List.forall_mem_cons.mpr ⟨?_, List.forall_mem_cons.mpr ⟨?_, List.forall_mem_cons.mpr ⟨?_, List.forall_mem_cons.mpr ⟨?_, List.forall_mem_cons.mpr ⟨?_, List.forall_mem_cons.mpr ⟨?_, List.forall_mem_cons.mpr ⟨?_, List.forall_mem_cons.mpr ⟨?_, List.forall_mem_cons.mpr ⟨?_, List.forall_mem_cons.mpr ⟨?_, List.forall_mem_cons.mpr ⟨?_, List.forall_mem_cons.mpr ⟨?_, List.forall_mem_cons.mpr ⟨?_, List.forall_mem_cons.mpr ⟨?_, List.forall_mem_cons.mpr ⟨?_, List.forall_mem_cons.mpr ⟨?_, List.forall_mem_cons.mpr ⟨?_, List.forall_mem_cons.mpr ⟨?_, List.forall_mem_cons.mpr ⟨?_, List.forall_mem_cons.mpr ⟨?_, List.forall_mem_cons.mpr ⟨?_, List.forall_mem_cons.mpr ⟨?_, List.forall_mem_cons.mpr ⟨?_, List.forall_mem_cons.mpr ⟨?_, List.forall_mem_cons.mpr ⟨?_, List.forall_mem_cons.mpr ⟨?_, List.forall_mem_cons.mpr ⟨?_, List.forall_mem_cons.mpr ⟨?_, List.forall_mem_cons.mpr ⟨?_, List.forall_mem_cons.mpr ⟨?_, List.forall_mem_cons.mpr ⟨?_, List.forall_mem_cons.mpr ⟨?_, List.forall_mem_cons.mpr ⟨?_, List.forall_mem_cons.mpr ⟨?_, List.forall_mem_cons.mpr ⟨?_, List.forall_mem_cons.mpr ⟨?_, List.forall_mem_cons.mpr ⟨?_, List.forall_mem_cons.mpr ⟨?_, List.forall_mem_cons.mpr ⟨?_, List.forall_mem_cons.mpr ⟨?_, List.forall_mem_cons.mpr ⟨?_, List.forall_mem_cons.mpr ⟨?_, List.forall_mem_cons.mpr ⟨?_, List.forall_mem_cons.mpr ⟨?_, List.forall_mem_cons.mpr ⟨?_, List.forall_mem_cons.mpr ⟨?_, List.forall_mem_cons.mpr ⟨?_, List.forall_mem_cons.mpr ⟨?_, List.forall_mem_cons.mpr ⟨?_, List.forall_mem_cons.mpr ⟨?_, List.forall_mem_cons.mpr ⟨?_, List.forall_mem_cons.mpr ⟨?_, List.forall_mem_cons.mpr ⟨?_, List.forall_mem_cons.mpr ⟨?_, fun _ h => absurd h List.not_mem_nil⟩⟩⟩⟩⟩⟩⟩⟩⟩⟩⟩⟩⟩⟩⟩⟩⟩⟩⟩⟩⟩⟩⟩⟩⟩⟩⟩⟩⟩⟩⟩⟩⟩⟩⟩⟩⟩⟩⟩⟩⟩⟩⟩⟩⟩⟩⟩⟩⟩⟩⟩⟩⟩⟩⟩⟩⟩⟩⟩⟩⟩⟩⟩⟩⟩⟩⟩⟩⟩⟩⟩⟩⟩⟩⟩⟩⟩⟩⟩⟩⟩⟩⟩⟩⟩⟩⟩⟩⟩⟩⟩⟩⟩⟩⟩⟩⟩
  · exact ⟨jx_mem 278 rfl rfl, by decide⟩
  · exact ⟨jx_mem 281 rfl rfl, by decide⟩
  · exact ⟨jx_mem 284 rfl rfl, by decide⟩
  · exact ⟨jx_mem 288 rfl rfl, by decide⟩
  · exact ⟨jx_mem 292 rfl rfl, by decide⟩
  · exact ⟨jx_mem 296 rfl rfl, by decide⟩
  · exact ⟨jx_mem 300 rfl rfl, by decide⟩
  · exact ⟨jx_mem 304 rfl rfl, by decide⟩
  · exact ⟨jx_mem 308 rfl rfl, by decide⟩
  · exact ⟨jx_mem 312 rfl rfl, by decide⟩
  · exact ⟨jx_mem 316 rfl rfl, by decide⟩
  · exact ⟨jx_mem 320 rfl rfl, by decide⟩
  · exact ⟨jx_mem 324 rfl rfl, by decide⟩
  · exact ⟨jx_mem 328 rfl rfl, by decide⟩
  · exact ⟨jx_mem 332 rfl rfl, by decide⟩
  · exact ⟨jx_mem 336 rfl rfl, by decide⟩
  · exact ⟨jx_mem 340 rfl rfl, by decide⟩
  · exact ⟨jx_mem 343 rfl rfl, by decide⟩
  · exact ⟨jx_mem 351 rfl rfl, by decide⟩
  · exact ⟨jx_mem 355 rfl rfl, by decide⟩
  · exact ⟨jx_mem 359 rfl rfl, by decide⟩
  · exact ⟨jx_mem 363 rfl rfl, by decide⟩
  · exact ⟨jx_mem 371 rfl rfl, by decide⟩
  · exact ⟨jx_mem 380 rfl rfl, by decide⟩
  · exact ⟨jx_mem 392 rfl rfl, by decide⟩
  · exact ⟨jx_mem 395 rfl rfl, by decide⟩
  · exact ⟨jx_mem 403 rfl rfl, by decide⟩
  · exact ⟨jx_mem 407 rfl rfl, by decide⟩
  · exact ⟨jx_mem 411 rfl rfl, by decide⟩
  · exact ⟨jx_mem 412 rfl rfl, by decide⟩
  · exact ⟨jx_mem 421 rfl rfl, by decide⟩
  · exact ⟨jx_mem 424 rfl rfl, by decide⟩
  · exact ⟨jx_mem 428 rfl rfl, by decide⟩
  · exact ⟨jx_mem 429 rfl rfl, by decide⟩
  · exact ⟨jx_mem 433 rfl rfl, by decide⟩
  · exact ⟨jx_mem 437 rfl rfl, by decide⟩
  · exact ⟨jx_mem 441 rfl rfl, by decide⟩
  · exact ⟨jx_mem 445 rfl rfl, by decide⟩
  · exact ⟨jx_mem 446 rfl rfl, by decide⟩
  · exact ⟨jx_mem 447 rfl rfl, by decide⟩
  · exact ⟨jx_mem 451 rfl rfl, by decide⟩
  · exact ⟨jx_mem 455 rfl rfl, by decide⟩
  · exact ⟨jx_mem 459 rfl rfl, by decide⟩
  · exact ⟨jx_mem 464 rfl rfl, by decide⟩
  · exact ⟨jx_mem 465 rfl rfl, by decide⟩
  · exact ⟨jx_mem 470 rfl rfl, by decide⟩
  · exact ⟨jx_mem 473 rfl rfl, by decide⟩
  · exact ⟨jx_mem 477 rfl rfl, by decide⟩
  · exact ⟨jx_mem 478 rfl rfl, by decide⟩
  · exact ⟨jx_mem 479 rfl rfl, by decide⟩
  · exact ⟨jx_mem 483 rfl rfl, by decide⟩
  · exact ⟨jx_mem 489 rfl rfl, by decide⟩
  · exact ⟨jx_mem 496 rfl rfl, by decide⟩
  · exact ⟨jx_mem 497 rfl rfl, by decide⟩
  · exact ⟨jx_mem 501 rfl rfl, by decide⟩
  · exact ⟨jx_mem 502 rfl rfl, by decide⟩
  · exact ⟨jx_mem 506 rfl rfl, by decide⟩
  · exact ⟨jx_mem 510 rfl rfl, by decide⟩
  · exact ⟨jx_mem 521 rfl rfl, by decide⟩
  · exact ⟨jx_mem 525 rfl rfl, by decide⟩
  · exact ⟨jx_mem 532 rfl rfl, by decide⟩
  · exact ⟨jx_mem 544 rfl rfl, by decide⟩
  · exact ⟨jx_mem 548 rfl rfl, by decide⟩
  · exact ⟨jx_mem 566 rfl rfl, by decide⟩
  · exact ⟨jx_mem 578 rfl rfl, by decide⟩
  · exact ⟨jx_mem 579 rfl rfl, by decide⟩
  · exact ⟨jx_mem 587 rfl rfl, by decide⟩
  · exact ⟨jx_mem 599 rfl rfl, by decide⟩
  · exact ⟨jx_mem 603 rfl rfl, by decide⟩
  · exact ⟨jx_mem 607 rfl rfl, by decide⟩
  · exact ⟨jx_mem 611 rfl rfl, by decide⟩
  · exact ⟨jx_mem 739 rfl rfl, by decide⟩
  · exact ⟨jx_mem 742 rfl rfl, by decide⟩
  · exact ⟨jx_mem 745 rfl rfl, by decide⟩
  · exact ⟨jx_mem 748 rfl rfl, by decide⟩
  · exact ⟨jx_mem 752 rfl rfl, by decide⟩
  · exact ⟨jx_mem 756 rfl rfl, by decide⟩
  · exact ⟨jx_mem 760 rfl rfl, by decide⟩
  · exact ⟨jx_mem 764 rfl rfl, by decide⟩
  · exact ⟨jx_mem 768 rfl rfl, by decide⟩
  · exact ⟨jx_mem 772 rfl rfl, by decide⟩
  · exact ⟨jx_mem 776 rfl rfl, by decide⟩
  · exact ⟨jx_mem 784 rfl rfl, by decide⟩
  · exact ⟨jx_mem 788 rfl rfl, by decide⟩
  · exact ⟨jx_mem 796 rfl rfl, by decide⟩
  · exact ⟨jx_mem 816 rfl rfl, by decide⟩
  · exact ⟨jx_mem 819 rfl rfl, by decide⟩
  · exact ⟨jx_mem 827 rfl rfl, by decide⟩
  · exact ⟨jx_mem 839 rfl rfl, by decide⟩
  · exact ⟨jx_mem 843 rfl rfl, by decide⟩
  · exact ⟨jx_mem 851 rfl rfl, by decide⟩
  · exact ⟨jx_mem 859 rfl rfl, by decide⟩
  · exact ⟨jx_mem 867 rfl rfl, by decide⟩
  · exact ⟨jx_mem 871 rfl rfl, by decide⟩
  · exact ⟨jx_mem 887 rfl rfl, by decide⟩
  · exact ⟨jx_mem 923 rfl rfl, by decide⟩
  · exact ⟨jx_mem 935 rfl rfl, by decide⟩
/-- the words of a method that is called -/
def jx_ok (y : Nat) : Prop := Cond.code (jx_mn y) (jx_mb y) (jx_mx y) (jx_mr y) ∈ jx_TB ∧ Cond.initialized (jx_mn y).cls ∈ jx_TB ∧ (jx_mn y).cls = jx_rx (jx_mo y) ∧ plainName (jx_mn y).cls = true ∧
  ((jx_mn y).cls ≠ "java/lang/invoke/MethodHandle" ∧ (jx_mn y).cls ≠ "java/lang/invoke/VarHandle" ∧ (parseMethodDescriptor (jx_mn y).desc).map (fun d => d.parameters.length) = some (jx_mp y)) ∧ jx_mo y < 9 ∧ jx_mx y ≤ 20 ∧
  (if jx_ms y = true then Cond.static (jx_mn y) ∈ jx_TB else Cond.instanceMethod (jx_mn y) ∈ jx_TB ∧ Cond.selects (jx_rx (jx_mo y)) (jx_mn y) (jx_mn y) ∈ jx_TB)
set_option maxRecDepth 100000 in
theorem jx_ok_0 : jx_ok 0 := ⟨jx_mem 468 rfl rfl, jx_mem 48 rfl rfl, rfl, by decide +kernel, ⟨by decide +kernel, by decide +kernel, by decide +kernel⟩, by decide, by decide, Eq.mpr (if_neg (by decide)) ⟨jx_mem 466 rfl rfl, jx_mem 467 rfl rfl⟩⟩
set_option maxRecDepth 100000 in
theorem jx_ok_1 : jx_ok 1 := ⟨jx_mem 472 rfl rfl, jx_mem 48 rfl rfl, rfl, by decide +kernel, ⟨by decide +kernel, by decide +kernel, by decide +kernel⟩, by decide, by decide, Eq.mpr (if_pos rfl) (jx_mem 471 rfl rfl)⟩
set_option maxRecDepth 100000 in
theorem jx_ok_2 : jx_ok 2 := ⟨jx_mem 482 rfl rfl, jx_mem 48 rfl rfl, rfl, by decide +kernel, ⟨by decide +kernel, by decide +kernel, by decide +kernel⟩, by decide, by decide, Eq.mpr (if_neg (by decide)) ⟨jx_mem 481 rfl rfl, jx_mem 14 rfl rfl⟩⟩
set_option maxRecDepth 100000 in
theorem jx_ok_3 : jx_ok 3 := ⟨jx_mem 476 rfl rfl, jx_mem 48 rfl rfl, rfl, by decide +kernel, ⟨by decide +kernel, by decide +kernel, by decide +kernel⟩, by decide, by decide, Eq.mpr (if_neg (by decide)) ⟨jx_mem 475 rfl rfl, jx_mem 13 rfl rfl⟩⟩
set_option maxRecDepth 100000 in
theorem jx_ok_4 : jx_ok 4 := ⟨jx_mem 383 rfl rfl, jx_mem 50 rfl rfl, rfl, by decide +kernel, ⟨by decide +kernel, by decide +kernel, by decide +kernel⟩, by decide, by decide, Eq.mpr (if_neg (by decide)) ⟨jx_mem 381 rfl rfl, jx_mem 382 rfl rfl⟩⟩
set_option maxRecDepth 100000 in
theorem jx_ok_5 : jx_ok 5 := ⟨jx_mem 354 rfl rfl, jx_mem 50 rfl rfl, rfl, by decide +kernel, ⟨by decide +kernel, by decide +kernel, by decide +kernel⟩, by decide, by decide, Eq.mpr (if_neg (by decide)) ⟨jx_mem 352 rfl rfl, jx_mem 353 rfl rfl⟩⟩
set_option maxRecDepth 100000 in
theorem jx_ok_6 : jx_ok 6 := ⟨jx_mem 366 rfl rfl, jx_mem 50 rfl rfl, rfl, by decide +kernel, ⟨by decide +kernel, by decide +kernel, by decide +kernel⟩, by decide, by decide, Eq.mpr (if_neg (by decide)) ⟨jx_mem 364 rfl rfl, jx_mem 365 rfl rfl⟩⟩
set_option maxRecDepth 100000 in
theorem jx_ok_7 : jx_ok 7 := ⟨jx_mem 362 rfl rfl, jx_mem 50 rfl rfl, rfl, by decide +kernel, ⟨by decide +kernel, by decide +kernel, by decide +kernel⟩, by decide, by decide, Eq.mpr (if_neg (by decide)) ⟨jx_mem 360 rfl rfl, jx_mem 361 rfl rfl⟩⟩
set_option maxRecDepth 100000 in
theorem jx_ok_8 : jx_ok 8 := ⟨jx_mem 358 rfl rfl, jx_mem 50 rfl rfl, rfl, by decide +kernel, ⟨by decide +kernel, by decide +kernel, by decide +kernel⟩, by decide, by decide, Eq.mpr (if_neg (by decide)) ⟨jx_mem 356 rfl rfl, jx_mem 357 rfl rfl⟩⟩
set_option maxRecDepth 100000 in
theorem jx_ok_9 : jx_ok 9 := ⟨jx_mem 406 rfl rfl, jx_mem 50 rfl rfl, rfl, by decide +kernel, ⟨by decide +kernel, by decide +kernel, by decide +kernel⟩, by decide, by decide, Eq.mpr (if_neg (by decide)) ⟨jx_mem 404 rfl rfl, jx_mem 405 rfl rfl⟩⟩
set_option maxRecDepth 100000 in
theorem jx_ok_10 : jx_ok 10 := ⟨jx_mem 398 rfl rfl, jx_mem 50 rfl rfl, rfl, by decide +kernel, ⟨by decide +kernel, by decide +kernel, by decide +kernel⟩, by decide, by decide, Eq.mpr (if_neg (by decide)) ⟨jx_mem 396 rfl rfl, jx_mem 397 rfl rfl⟩⟩
set_option maxRecDepth 100000 in
theorem jx_ok_11 : jx_ok 11 := ⟨jx_mem 410 rfl rfl, jx_mem 50 rfl rfl, rfl, by decide +kernel, ⟨by decide +kernel, by decide +kernel, by decide +kernel⟩, by decide, by decide, Eq.mpr (if_neg (by decide)) ⟨jx_mem 408 rfl rfl, jx_mem 409 rfl rfl⟩⟩
set_option maxRecDepth 100000 in
theorem jx_ok_12 : jx_ok 12 := ⟨jx_mem 427 rfl rfl, jx_mem 47 rfl rfl, rfl, by decide +kernel, ⟨by decide +kernel, by decide +kernel, by decide +kernel⟩, by decide, by decide, Eq.mpr (if_neg (by decide)) ⟨jx_mem 425 rfl rfl, jx_mem 426 rfl rfl⟩⟩
set_option maxRecDepth 100000 in
theorem jx_ok_13 : jx_ok 13 := ⟨jx_mem 454 rfl rfl, jx_mem 47 rfl rfl, rfl, by decide +kernel, ⟨by decide +kernel, by decide +kernel, by decide +kernel⟩, by decide, by decide, Eq.mpr (if_neg (by decide)) ⟨jx_mem 452 rfl rfl, jx_mem 453 rfl rfl⟩⟩
set_option maxRecDepth 100000 in
theorem jx_ok_14 : jx_ok 14 := ⟨jx_mem 440 rfl rfl, jx_mem 47 rfl rfl, rfl, by decide +kernel, ⟨by decide +kernel, by decide +kernel, by decide +kernel⟩, by decide, by decide, Eq.mpr (if_neg (by decide)) ⟨jx_mem 438 rfl rfl, jx_mem 439 rfl rfl⟩⟩
set_option maxRecDepth 100000 in
theorem jx_ok_15 : jx_ok 15 := ⟨jx_mem 444 rfl rfl, jx_mem 47 rfl rfl, rfl, by decide +kernel, ⟨by decide +kernel, by decide +kernel, by decide +kernel⟩, by decide, by decide, Eq.mpr (if_neg (by decide)) ⟨jx_mem 443 rfl rfl, jx_mem 12 rfl rfl⟩⟩
set_option maxRecDepth 100000 in
theorem jx_ok_16 : jx_ok 16 := ⟨jx_mem 436 rfl rfl, jx_mem 47 rfl rfl, rfl, by decide +kernel, ⟨by decide +kernel, by decide +kernel, by decide +kernel⟩, by decide, by decide, Eq.mpr (if_neg (by decide)) ⟨jx_mem 434 rfl rfl, jx_mem 435 rfl rfl⟩⟩
set_option maxRecDepth 100000 in
theorem jx_ok_17 : jx_ok 17 := ⟨jx_mem 458 rfl rfl, jx_mem 47 rfl rfl, rfl, by decide +kernel, ⟨by decide +kernel, by decide +kernel, by decide +kernel⟩, by decide, by decide, Eq.mpr (if_neg (by decide)) ⟨jx_mem 456 rfl rfl, jx_mem 457 rfl rfl⟩⟩
set_option maxRecDepth 100000 in
theorem jx_ok_18 : jx_ok 18 := ⟨jx_mem 535 rfl rfl, jx_mem 46 rfl rfl, rfl, by decide +kernel, ⟨by decide +kernel, by decide +kernel, by decide +kernel⟩, by decide, by decide, Eq.mpr (if_neg (by decide)) ⟨jx_mem 533 rfl rfl, jx_mem 534 rfl rfl⟩⟩
set_option maxRecDepth 100000 in
theorem jx_ok_19 : jx_ok 19 := ⟨jx_mem 547 rfl rfl, jx_mem 46 rfl rfl, rfl, by decide +kernel, ⟨by decide +kernel, by decide +kernel, by decide +kernel⟩, by decide, by decide, Eq.mpr (if_neg (by decide)) ⟨jx_mem 545 rfl rfl, jx_mem 546 rfl rfl⟩⟩
set_option maxRecDepth 100000 in
theorem jx_ok_20 : jx_ok 20 := ⟨jx_mem 569 rfl rfl, jx_mem 51 rfl rfl, rfl, by decide +kernel, ⟨by decide +kernel, by decide +kernel, by decide +kernel⟩, by decide, by decide, Eq.mpr (if_neg (by decide)) ⟨jx_mem 567 rfl rfl, jx_mem 568 rfl rfl⟩⟩
set_option maxRecDepth 100000 in
theorem jx_ok_21 : jx_ok 21 := ⟨jx_mem 291 rfl rfl, jx_mem 51 rfl rfl, rfl, by decide +kernel, ⟨by decide +kernel, by decide +kernel, by decide +kernel⟩, by decide, by decide, Eq.mpr (if_neg (by decide)) ⟨jx_mem 289 rfl rfl, jx_mem 290 rfl rfl⟩⟩
set_option maxRecDepth 100000 in
theorem jx_ok_22 : jx_ok 22 := ⟨jx_mem 287 rfl rfl, jx_mem 51 rfl rfl, rfl, by decide +kernel, ⟨by decide +kernel, by decide +kernel, by decide +kernel⟩, by decide, by decide, Eq.mpr (if_neg (by decide)) ⟨jx_mem 285 rfl rfl, jx_mem 286 rfl rfl⟩⟩
set_option maxRecDepth 100000 in
theorem jx_ok_23 : jx_ok 23 := ⟨jx_mem 315 rfl rfl, jx_mem 51 rfl rfl, rfl, by decide +kernel, ⟨by decide +kernel, by decide +kernel, by decide +kernel⟩, by decide, by decide, Eq.mpr (if_neg (by decide)) ⟨jx_mem 313 rfl rfl, jx_mem 314 rfl rfl⟩⟩
set_option maxRecDepth 100000 in
theorem jx_ok_24 : jx_ok 24 := ⟨jx_mem 582 rfl rfl, jx_mem 51 rfl rfl, rfl, by decide +kernel, ⟨by decide +kernel, by decide +kernel, by decide +kernel⟩, by decide, by decide, Eq.mpr (if_neg (by decide)) ⟨jx_mem 580 rfl rfl, jx_mem 581 rfl rfl⟩⟩
set_option maxRecDepth 100000 in
theorem jx_ok_25 : jx_ok 25 := ⟨jx_mem 492 rfl rfl, jx_mem 49 rfl rfl, rfl, by decide +kernel, ⟨by decide +kernel, by decide +kernel, by decide +kernel⟩, by decide, by decide, Eq.mpr (if_neg (by decide)) ⟨jx_mem 490 rfl rfl, jx_mem 491 rfl rfl⟩⟩
set_option maxRecDepth 100000 in
theorem jx_ok_26 : jx_ok 26 := ⟨jx_mem 500 rfl rfl, jx_mem 49 rfl rfl, rfl, by decide +kernel, ⟨by decide +kernel, by decide +kernel, by decide +kernel⟩, by decide, by decide, Eq.mpr (if_neg (by decide)) ⟨jx_mem 498 rfl rfl, jx_mem 499 rfl rfl⟩⟩
set_option maxRecDepth 100000 in
theorem jx_ok_27 : jx_ok 27 := ⟨jx_mem 505 rfl rfl, jx_mem 49 rfl rfl, rfl, by decide +kernel, ⟨by decide +kernel, by decide +kernel, by decide +kernel⟩, by decide, by decide, Eq.mpr (if_neg (by decide)) ⟨jx_mem 504 rfl rfl, jx_mem 15 rfl rfl⟩⟩
set_option maxRecDepth 100000 in
theorem jx_ok_28 : jx_ok 28 := ⟨jx_mem 509 rfl rfl, jx_mem 49 rfl rfl, rfl, by decide +kernel, ⟨by decide +kernel, by decide +kernel, by decide +kernel⟩, by decide, by decide, Eq.mpr (if_neg (by decide)) ⟨jx_mem 507 rfl rfl, jx_mem 508 rfl rfl⟩⟩
set_option maxRecDepth 100000 in
theorem jx_ok_29 : jx_ok 29 := ⟨jx_mem 513 rfl rfl, jx_mem 49 rfl rfl, rfl, by decide +kernel, ⟨by decide +kernel, by decide +kernel, by decide +kernel⟩, by decide, by decide, Eq.mpr (if_neg (by decide)) ⟨jx_mem 512 rfl rfl, jx_mem 16 rfl rfl⟩⟩
set_option maxRecDepth 100000 in
theorem jx_ok_30 : jx_ok 30 := ⟨jx_mem 524 rfl rfl, jx_mem 49 rfl rfl, rfl, by decide +kernel, ⟨by decide +kernel, by decide +kernel, by decide +kernel⟩, by decide, by decide, Eq.mpr (if_neg (by decide)) ⟨jx_mem 522 rfl rfl, jx_mem 523 rfl rfl⟩⟩
set_option maxRecDepth 100000 in
theorem jx_ok_31 : jx_ok 31 := ⟨jx_mem 527 rfl rfl, jx_mem 49 rfl rfl, rfl, by decide +kernel, ⟨by decide +kernel, by decide +kernel, by decide +kernel⟩, by decide, by decide, Eq.mpr (if_pos rfl) (jx_mem 526 rfl rfl)⟩
set_option maxRecDepth 100000 in
theorem jx_ok_32 : jx_ok 32 := ⟨jx_mem 299 rfl rfl, jx_mem 45 rfl rfl, rfl, by decide +kernel, ⟨by decide +kernel, by decide +kernel, by decide +kernel⟩, by decide, by decide, Eq.mpr (if_neg (by decide)) ⟨jx_mem 297 rfl rfl, jx_mem 298 rfl rfl⟩⟩
set_option maxRecDepth 100000 in
theorem jx_ok_33 : jx_ok 33 := ⟨jx_mem 303 rfl rfl, jx_mem 45 rfl rfl, rfl, by decide +kernel, ⟨by decide +kernel, by decide +kernel, by decide +kernel⟩, by decide, by decide, Eq.mpr (if_neg (by decide)) ⟨jx_mem 302 rfl rfl, jx_mem 1 rfl rfl⟩⟩
set_option maxRecDepth 100000 in
theorem jx_ok_34 : jx_ok 34 := ⟨jx_mem 323 rfl rfl, jx_mem 45 rfl rfl, rfl, by decide +kernel, ⟨by decide +kernel, by decide +kernel, by decide +kernel⟩, by decide, by decide, Eq.mpr (if_neg (by decide)) ⟨jx_mem 322 rfl rfl, jx_mem 5 rfl rfl⟩⟩
set_option maxRecDepth 100000 in
theorem jx_ok_35 : jx_ok 35 := ⟨jx_mem 327 rfl rfl, jx_mem 45 rfl rfl, rfl, by decide +kernel, ⟨by decide +kernel, by decide +kernel, by decide +kernel⟩, by decide, by decide, Eq.mpr (if_neg (by decide)) ⟨jx_mem 326 rfl rfl, jx_mem 6 rfl rfl⟩⟩
set_option maxRecDepth 100000 in
theorem jx_ok_36 : jx_ok 36 := ⟨jx_mem 331 rfl rfl, jx_mem 45 rfl rfl, rfl, by decide +kernel, ⟨by decide +kernel, by decide +kernel, by decide +kernel⟩, by decide, by decide, Eq.mpr (if_neg (by decide)) ⟨jx_mem 330 rfl rfl, jx_mem 7 rfl rfl⟩⟩
set_option maxRecDepth 100000 in
theorem jx_ok_37 : jx_ok 37 := ⟨jx_mem 335 rfl rfl, jx_mem 45 rfl rfl, rfl, by decide +kernel, ⟨by decide +kernel, by decide +kernel, by decide +kernel⟩, by decide, by decide, Eq.mpr (if_neg (by decide)) ⟨jx_mem 334 rfl rfl, jx_mem 8 rfl rfl⟩⟩
set_option maxRecDepth 100000 in
theorem jx_ok_38 : jx_ok 38 := ⟨jx_mem 339 rfl rfl, jx_mem 45 rfl rfl, rfl, by decide +kernel, ⟨by decide +kernel, by decide +kernel, by decide +kernel⟩, by decide, by decide, Eq.mpr (if_neg (by decide)) ⟨jx_mem 338 rfl rfl, jx_mem 9 rfl rfl⟩⟩
set_option maxRecDepth 100000 in
theorem jx_ok_39 : jx_ok 39 := ⟨jx_mem 342 rfl rfl, jx_mem 45 rfl rfl, rfl, by decide +kernel, ⟨by decide +kernel, by decide +kernel, by decide +kernel⟩, by decide, by decide, Eq.mpr (if_pos rfl) (jx_mem 341 rfl rfl)⟩
set_option maxRecDepth 100000 in
theorem jx_ok_40 : jx_ok 40 := ⟨jx_mem 319 rfl rfl, jx_mem 45 rfl rfl, rfl, by decide +kernel, ⟨by decide +kernel, by decide +kernel, by decide +kernel⟩, by decide, by decide, Eq.mpr (if_neg (by decide)) ⟨jx_mem 318 rfl rfl, jx_mem 4 rfl rfl⟩⟩
set_option maxRecDepth 100000 in
theorem jx_ok_41 : jx_ok 41 := ⟨jx_mem 307 rfl rfl, jx_mem 45 rfl rfl, rfl, by decide +kernel, ⟨by decide +kernel, by decide +kernel, by decide +kernel⟩, by decide, by decide, Eq.mpr (if_neg (by decide)) ⟨jx_mem 306 rfl rfl, jx_mem 2 rfl rfl⟩⟩
set_option maxRecDepth 100000 in
theorem jx_ok_42 : jx_ok 42 := ⟨jx_mem 311 rfl rfl, jx_mem 45 rfl rfl, rfl, by decide +kernel, ⟨by decide +kernel, by decide +kernel, by decide +kernel⟩, by decide, by decide, Eq.mpr (if_neg (by decide)) ⟨jx_mem 310 rfl rfl, jx_mem 3 rfl rfl⟩⟩
set_option maxRecDepth 100000 in
theorem jx_ok_43 : jx_ok 43 := ⟨jx_mem 277 rfl rfl, jx_mem 44 rfl rfl, rfl, by decide +kernel, ⟨by decide +kernel, by decide +kernel, by decide +kernel⟩, by decide, by decide, Eq.mpr (if_neg (by decide)) ⟨jx_mem 275 rfl rfl, jx_mem 276 rfl rfl⟩⟩
set_option maxRecDepth 100000 in
theorem jx_ok_44 : jx_ok 44 := ⟨jx_mem 346 rfl rfl, jx_mem 44 rfl rfl, rfl, by decide +kernel, ⟨by decide +kernel, by decide +kernel, by decide +kernel⟩, by decide, by decide, Eq.mpr (if_neg (by decide)) ⟨jx_mem 345 rfl rfl, jx_mem 10 rfl rfl⟩⟩
set_option maxRecDepth 100000 in
theorem jx_ok_45 : jx_ok 45 := ⟨jx_mem 350 rfl rfl, jx_mem 44 rfl rfl, rfl, by decide +kernel, ⟨by decide +kernel, by decide +kernel, by decide +kernel⟩, by decide, by decide, Eq.mpr (if_neg (by decide)) ⟨jx_mem 348 rfl rfl, jx_mem 349 rfl rfl⟩⟩
set_option maxRecDepth 100000 in
theorem jx_ok_46 : jx_ok 46 := ⟨jx_mem 370 rfl rfl, jx_mem 44 rfl rfl, rfl, by decide +kernel, ⟨by decide +kernel, by decide +kernel, by decide +kernel⟩, by decide, by decide, Eq.mpr (if_neg (by decide)) ⟨jx_mem 368 rfl rfl, jx_mem 369 rfl rfl⟩⟩
set_option maxRecDepth 100000 in
theorem jx_ok_47 : jx_ok 47 := ⟨jx_mem 375 rfl rfl, jx_mem 44 rfl rfl, rfl, by decide +kernel, ⟨by decide +kernel, by decide +kernel, by decide +kernel⟩, by decide, by decide, Eq.mpr (if_neg (by decide)) ⟨jx_mem 373 rfl rfl, jx_mem 374 rfl rfl⟩⟩
set_option maxRecDepth 100000 in
theorem jx_ok_48 : jx_ok 48 := ⟨jx_mem 379 rfl rfl, jx_mem 44 rfl rfl, rfl, by decide +kernel, ⟨by decide +kernel, by decide +kernel, by decide +kernel⟩, by decide, by decide, Eq.mpr (if_neg (by decide)) ⟨jx_mem 377 rfl rfl, jx_mem 378 rfl rfl⟩⟩
set_option maxRecDepth 100000 in
theorem jx_ok_49 : jx_ok 49 := ⟨jx_mem 387 rfl rfl, jx_mem 44 rfl rfl, rfl, by decide +kernel, ⟨by decide +kernel, by decide +kernel, by decide +kernel⟩, by decide, by decide, Eq.mpr (if_neg (by decide)) ⟨jx_mem 385 rfl rfl, jx_mem 386 rfl rfl⟩⟩
set_option maxRecDepth 100000 in
theorem jx_ok_50 : jx_ok 50 := ⟨jx_mem 391 rfl rfl, jx_mem 44 rfl rfl, rfl, by decide +kernel, ⟨by decide +kernel, by decide +kernel, by decide +kernel⟩, by decide, by decide, Eq.mpr (if_neg (by decide)) ⟨jx_mem 389 rfl rfl, jx_mem 390 rfl rfl⟩⟩
set_option maxRecDepth 100000 in
theorem jx_ok_51 : jx_ok 51 := ⟨jx_mem 402 rfl rfl, jx_mem 44 rfl rfl, rfl, by decide +kernel, ⟨by decide +kernel, by decide +kernel, by decide +kernel⟩, by decide, by decide, Eq.mpr (if_neg (by decide)) ⟨jx_mem 400 rfl rfl, jx_mem 401 rfl rfl⟩⟩
set_option maxRecDepth 100000 in
theorem jx_ok_52 : jx_ok 52 := ⟨jx_mem 416 rfl rfl, jx_mem 44 rfl rfl, rfl, by decide +kernel, ⟨by decide +kernel, by decide +kernel, by decide +kernel⟩, by decide, by decide, Eq.mpr (if_neg (by decide)) ⟨jx_mem 414 rfl rfl, jx_mem 415 rfl rfl⟩⟩
set_option maxRecDepth 100000 in
theorem jx_ok_53 : jx_ok 53 := ⟨jx_mem 420 rfl rfl, jx_mem 44 rfl rfl, rfl, by decide +kernel, ⟨by decide +kernel, by decide +kernel, by decide +kernel⟩, by decide, by decide, Eq.mpr (if_neg (by decide)) ⟨jx_mem 418 rfl rfl, jx_mem 419 rfl rfl⟩⟩
set_option maxRecDepth 100000 in
theorem jx_ok_54 : jx_ok 54 := ⟨jx_mem 423 rfl rfl, jx_mem 44 rfl rfl, rfl, by decide +kernel, ⟨by decide +kernel, by decide +kernel, by decide +kernel⟩, by decide, by decide, Eq.mpr (if_pos rfl) (jx_mem 422 rfl rfl)⟩
set_option maxRecDepth 100000 in
theorem jx_ok_55 : jx_ok 55 := ⟨jx_mem 432 rfl rfl, jx_mem 44 rfl rfl, rfl, by decide +kernel, ⟨by decide +kernel, by decide +kernel, by decide +kernel⟩, by decide, by decide, Eq.mpr (if_neg (by decide)) ⟨jx_mem 431 rfl rfl, jx_mem 11 rfl rfl⟩⟩
set_option maxRecDepth 100000 in
theorem jx_ok_56 : jx_ok 56 := ⟨jx_mem 463 rfl rfl, jx_mem 44 rfl rfl, rfl, by decide +kernel, ⟨by decide +kernel, by decide +kernel, by decide +kernel⟩, by decide, by decide, Eq.mpr (if_neg (by decide)) ⟨jx_mem 461 rfl rfl, jx_mem 462 rfl rfl⟩⟩
set_option maxRecDepth 100000 in
theorem jx_ok_57 : jx_ok 57 := ⟨jx_mem 488 rfl rfl, jx_mem 44 rfl rfl, rfl, by decide +kernel, ⟨by decide +kernel, by decide +kernel, by decide +kernel⟩, by decide, by decide, Eq.mpr (if_neg (by decide)) ⟨jx_mem 486 rfl rfl, jx_mem 487 rfl rfl⟩⟩
set_option maxRecDepth 100000 in
theorem jx_ok_58 : jx_ok 58 := ⟨jx_mem 520 rfl rfl, jx_mem 44 rfl rfl, rfl, by decide +kernel, ⟨by decide +kernel, by decide +kernel, by decide +kernel⟩, by decide, by decide, Eq.mpr (if_neg (by decide)) ⟨jx_mem 518 rfl rfl, jx_mem 519 rfl rfl⟩⟩
set_option maxRecDepth 100000 in
theorem jx_ok_59 : jx_ok 59 := ⟨jx_mem 531 rfl rfl, jx_mem 44 rfl rfl, rfl, by decide +kernel, ⟨by decide +kernel, by decide +kernel, by decide +kernel⟩, by decide, by decide, Eq.mpr (if_neg (by decide)) ⟨jx_mem 529 rfl rfl, jx_mem 530 rfl rfl⟩⟩
set_option maxRecDepth 100000 in
theorem jx_ok_60 : jx_ok 60 := ⟨jx_mem 539 rfl rfl, jx_mem 44 rfl rfl, rfl, by decide +kernel, ⟨by decide +kernel, by decide +kernel, by decide +kernel⟩, by decide, by decide, Eq.mpr (if_neg (by decide)) ⟨jx_mem 537 rfl rfl, jx_mem 538 rfl rfl⟩⟩
set_option maxRecDepth 100000 in
theorem jx_ok_61 : jx_ok 61 := ⟨jx_mem 543 rfl rfl, jx_mem 44 rfl rfl, rfl, by decide +kernel, ⟨by decide +kernel, by decide +kernel, by decide +kernel⟩, by decide, by decide, Eq.mpr (if_neg (by decide)) ⟨jx_mem 541 rfl rfl, jx_mem 542 rfl rfl⟩⟩
set_option maxRecDepth 100000 in
theorem jx_ok_62 : jx_ok 62 := ⟨jx_mem 552 rfl rfl, jx_mem 44 rfl rfl, rfl, by decide +kernel, ⟨by decide +kernel, by decide +kernel, by decide +kernel⟩, by decide, by decide, Eq.mpr (if_neg (by decide)) ⟨jx_mem 550 rfl rfl, jx_mem 551 rfl rfl⟩⟩
set_option maxRecDepth 100000 in
theorem jx_ok_63 : jx_ok 63 := ⟨jx_mem 556 rfl rfl, jx_mem 44 rfl rfl, rfl, by decide +kernel, ⟨by decide +kernel, by decide +kernel, by decide +kernel⟩, by decide, by decide, Eq.mpr (if_neg (by decide)) ⟨jx_mem 554 rfl rfl, jx_mem 555 rfl rfl⟩⟩
set_option maxRecDepth 100000 in
theorem jx_ok_64 : jx_ok 64 := ⟨jx_mem 560 rfl rfl, jx_mem 44 rfl rfl, rfl, by decide +kernel, ⟨by decide +kernel, by decide +kernel, by decide +kernel⟩, by decide, by decide, Eq.mpr (if_neg (by decide)) ⟨jx_mem 558 rfl rfl, jx_mem 559 rfl rfl⟩⟩
set_option maxRecDepth 100000 in
theorem jx_ok_65 : jx_ok 65 := ⟨jx_mem 565 rfl rfl, jx_mem 44 rfl rfl, rfl, by decide +kernel, ⟨by decide +kernel, by decide +kernel, by decide +kernel⟩, by decide, by decide, Eq.mpr (if_neg (by decide)) ⟨jx_mem 563 rfl rfl, jx_mem 564 rfl rfl⟩⟩
set_option maxRecDepth 100000 in
theorem jx_ok_66 : jx_ok 66 := ⟨jx_mem 573 rfl rfl, jx_mem 44 rfl rfl, rfl, by decide +kernel, ⟨by decide +kernel, by decide +kernel, by decide +kernel⟩, by decide, by decide, Eq.mpr (if_neg (by decide)) ⟨jx_mem 571 rfl rfl, jx_mem 572 rfl rfl⟩⟩
set_option maxRecDepth 100000 in
theorem jx_ok_67 : jx_ok 67 := ⟨jx_mem 577 rfl rfl, jx_mem 44 rfl rfl, rfl, by decide +kernel, ⟨by decide +kernel, by decide +kernel, by decide +kernel⟩, by decide, by decide, Eq.mpr (if_neg (by decide)) ⟨jx_mem 575 rfl rfl, jx_mem 576 rfl rfl⟩⟩
set_option maxRecDepth 100000 in
theorem jx_ok_68 : jx_ok 68 := ⟨jx_mem 586 rfl rfl, jx_mem 44 rfl rfl, rfl, by decide +kernel, ⟨by decide +kernel, by decide +kernel, by decide +kernel⟩, by decide, by decide, Eq.mpr (if_neg (by decide)) ⟨jx_mem 584 rfl rfl, jx_mem 585 rfl rfl⟩⟩
set_option maxRecDepth 100000 in
theorem jx_ok_69 : jx_ok 69 := ⟨jx_mem 591 rfl rfl, jx_mem 44 rfl rfl, rfl, by decide +kernel, ⟨by decide +kernel, by decide +kernel, by decide +kernel⟩, by decide, by decide, Eq.mpr (if_neg (by decide)) ⟨jx_mem 589 rfl rfl, jx_mem 590 rfl rfl⟩⟩
set_option maxRecDepth 100000 in
theorem jx_ok_70 : jx_ok 70 := ⟨jx_mem 598 rfl rfl, jx_mem 44 rfl rfl, rfl, by decide +kernel, ⟨by decide +kernel, by decide +kernel, by decide +kernel⟩, by decide, by decide, Eq.mpr (if_neg (by decide)) ⟨jx_mem 596 rfl rfl, jx_mem 597 rfl rfl⟩⟩
set_option maxRecDepth 100000 in
theorem jx_ok_71 : jx_ok 71 := ⟨jx_mem 602 rfl rfl, jx_mem 44 rfl rfl, rfl, by decide +kernel, ⟨by decide +kernel, by decide +kernel, by decide +kernel⟩, by decide, by decide, Eq.mpr (if_neg (by decide)) ⟨jx_mem 601 rfl rfl, jx_mem 17 rfl rfl⟩⟩
set_option maxRecDepth 100000 in
theorem jx_ok_72 : jx_ok 72 := ⟨jx_mem 610 rfl rfl, jx_mem 44 rfl rfl, rfl, by decide +kernel, ⟨by decide +kernel, by decide +kernel, by decide +kernel⟩, by decide, by decide, Eq.mpr (if_neg (by decide)) ⟨jx_mem 609 rfl rfl, jx_mem 19 rfl rfl⟩⟩
set_option maxRecDepth 100000 in
theorem jx_ok_73 : jx_ok 73 := ⟨jx_mem 614 rfl rfl, jx_mem 44 rfl rfl, rfl, by decide +kernel, ⟨by decide +kernel, by decide +kernel, by decide +kernel⟩, by decide, by decide, Eq.mpr (if_neg (by decide)) ⟨jx_mem 613 rfl rfl, jx_mem 20 rfl rfl⟩⟩
set_option maxRecDepth 100000 in
theorem jx_ok_74 : jx_ok 74 := ⟨jx_mem 606 rfl rfl, jx_mem 44 rfl rfl, rfl, by decide +kernel, ⟨by decide +kernel, by decide +kernel, by decide +kernel⟩, by decide, by decide, Eq.mpr (if_neg (by decide)) ⟨jx_mem 605 rfl rfl, jx_mem 18 rfl rfl⟩⟩
set_option maxRecDepth 100000 in
theorem jx_ok_75 : jx_ok 75 := ⟨jx_mem 618 rfl rfl, jx_mem 44 rfl rfl, rfl, by decide +kernel, ⟨by decide +kernel, by decide +kernel, by decide +kernel⟩, by decide, by decide, Eq.mpr (if_neg (by decide)) ⟨jx_mem 616 rfl rfl, jx_mem 617 rfl rfl⟩⟩
set_option maxRecDepth 100000 in
theorem jx_ok_76 : jx_ok 76 := ⟨jx_mem 622 rfl rfl, jx_mem 44 rfl rfl, rfl, by decide +kernel, ⟨by decide +kernel, by decide +kernel, by decide +kernel⟩, by decide, by decide, Eq.mpr (if_neg (by decide)) ⟨jx_mem 620 rfl rfl, jx_mem 621 rfl rfl⟩⟩
set_option maxRecDepth 100000 in
theorem jx_ok_77 : jx_ok 77 := ⟨jx_mem 626 rfl rfl, jx_mem 44 rfl rfl, rfl, by decide +kernel, ⟨by decide +kernel, by decide +kernel, by decide +kernel⟩, by decide, by decide, Eq.mpr (if_neg (by decide)) ⟨jx_mem 624 rfl rfl, jx_mem 625 rfl rfl⟩⟩
set_option maxRecDepth 100000 in
theorem jx_ok_78 : jx_ok 78 := ⟨jx_mem 630 rfl rfl, jx_mem 44 rfl rfl, rfl, by decide +kernel, ⟨by decide +kernel, by decide +kernel, by decide +kernel⟩, by decide, by decide, Eq.mpr (if_neg (by decide)) ⟨jx_mem 628 rfl rfl, jx_mem 629 rfl rfl⟩⟩
set_option maxRecDepth 100000 in
theorem jx_ok_79 : jx_ok 79 := ⟨jx_mem 634 rfl rfl, jx_mem 44 rfl rfl, rfl, by decide +kernel, ⟨by decide +kernel, by decide +kernel, by decide +kernel⟩, by decide, by decide, Eq.mpr (if_neg (by decide)) ⟨jx_mem 632 rfl rfl, jx_mem 633 rfl rfl⟩⟩
set_option maxRecDepth 100000 in
theorem jx_ok_80 : jx_ok 80 := ⟨jx_mem 280 rfl rfl, jx_mem 44 rfl rfl, rfl, by decide +kernel, ⟨by decide +kernel, by decide +kernel, by decide +kernel⟩, by decide, by decide, Eq.mpr (if_pos rfl) (jx_mem 279 rfl rfl)⟩
set_option maxRecDepth 100000 in
theorem jx_ok_81 : jx_ok 81 := ⟨jx_mem 283 rfl rfl, jx_mem 44 rfl rfl, rfl, by decide +kernel, ⟨by decide +kernel, by decide +kernel, by decide +kernel⟩, by decide, by decide, Eq.mpr (if_pos rfl) (jx_mem 282 rfl rfl)⟩
set_option maxRecDepth 100000 in
theorem jx_ok_82 : jx_ok 82 := ⟨jx_mem 394 rfl rfl, jx_mem 44 rfl rfl, rfl, by decide +kernel, ⟨by decide +kernel, by decide +kernel, by decide +kernel⟩, by decide, by decide, Eq.mpr (if_pos rfl) (jx_mem 393 rfl rfl)⟩
set_option maxRecDepth 100000 in
theorem jx_ok_83 : jx_ok 83 := ⟨jx_mem 295 rfl rfl, jx_mem 44 rfl rfl, rfl, by decide +kernel, ⟨by decide +kernel, by decide +kernel, by decide +kernel⟩, by decide, by decide, Eq.mpr (if_neg (by decide)) ⟨jx_mem 294 rfl rfl, jx_mem 0 rfl rfl⟩⟩
set_option maxRecDepth 100000 in
theorem jx_ok_84 : jx_ok 84 := ⟨jx_mem 755 rfl rfl, jx_mem 52 rfl rfl, rfl, by decide +kernel, ⟨by decide +kernel, by decide +kernel, by decide +kernel⟩, by decide, by decide, Eq.mpr (if_neg (by decide)) ⟨jx_mem 754 rfl rfl, jx_mem 22 rfl rfl⟩⟩
set_option maxRecDepth 100000 in
theorem jx_ok_85 : jx_ok 85 := ⟨jx_mem 926 rfl rfl, jx_mem 52 rfl rfl, rfl, by decide +kernel, ⟨by decide +kernel, by decide +kernel, by decide +kernel⟩, by decide, by decide, Eq.mpr (if_neg (by decide)) ⟨jx_mem 925 rfl rfl, jx_mem 41 rfl rfl⟩⟩
set_option maxRecDepth 100000 in
theorem jx_ok_86 : jx_ok 86 := ⟨jx_mem 744 rfl rfl, jx_mem 52 rfl rfl, rfl, by decide +kernel, ⟨by decide +kernel, by decide +kernel, by decide +kernel⟩, by decide, by decide, Eq.mpr (if_pos rfl) (jx_mem 743 rfl rfl)⟩
set_option maxRecDepth 100000 in
theorem jx_ok_87 : jx_ok 87 := ⟨jx_mem 741 rfl rfl, jx_mem 52 rfl rfl, rfl, by decide +kernel, ⟨by decide +kernel, by decide +kernel, by decide +kernel⟩, by decide, by decide, Eq.mpr (if_pos rfl) (jx_mem 740 rfl rfl)⟩
set_option maxRecDepth 100000 in
theorem jx_ok_88 : jx_ok 88 := ⟨jx_mem 747 rfl rfl, jx_mem 52 rfl rfl, rfl, by decide +kernel, ⟨by decide +kernel, by decide +kernel, by decide +kernel⟩, by decide, by decide, Eq.mpr (if_pos rfl) (jx_mem 746 rfl rfl)⟩
set_option maxRecDepth 100000 in
theorem jx_ok_89 : jx_ok 89 := ⟨jx_mem 751 rfl rfl, jx_mem 52 rfl rfl, rfl, by decide +kernel, ⟨by decide +kernel, by decide +kernel, by decide +kernel⟩, by decide, by decide, Eq.mpr (if_neg (by decide)) ⟨jx_mem 750 rfl rfl, jx_mem 21 rfl rfl⟩⟩
set_option maxRecDepth 100000 in
theorem jx_ok_90 : jx_ok 90 := ⟨jx_mem 787 rfl rfl, jx_mem 52 rfl rfl, rfl, by decide +kernel, ⟨by decide +kernel, by decide +kernel, by decide +kernel⟩, by decide, by decide, Eq.mpr (if_neg (by decide)) ⟨jx_mem 786 rfl rfl, jx_mem 29 rfl rfl⟩⟩
set_option maxRecDepth 100000 in
theorem jx_ok_91 : jx_ok 91 := ⟨jx_mem 799 rfl rfl, jx_mem 52 rfl rfl, rfl, by decide +kernel, ⟨by decide +kernel, by decide +kernel, by decide +kernel⟩, by decide, by decide, Eq.mpr (if_neg (by decide)) ⟨jx_mem 798 rfl rfl, jx_mem 31 rfl rfl⟩⟩
set_option maxRecDepth 100000 in
theorem jx_ok_92 : jx_ok 92 := ⟨jx_mem 767 rfl rfl, jx_mem 52 rfl rfl, rfl, by decide +kernel, ⟨by decide +kernel, by decide +kernel, by decide +kernel⟩, by decide, by decide, Eq.mpr (if_neg (by decide)) ⟨jx_mem 766 rfl rfl, jx_mem 25 rfl rfl⟩⟩
set_option maxRecDepth 100000 in
theorem jx_ok_93 : jx_ok 93 := ⟨jx_mem 763 rfl rfl, jx_mem 52 rfl rfl, rfl, by decide +kernel, ⟨by decide +kernel, by decide +kernel, by decide +kernel⟩, by decide, by decide, Eq.mpr (if_neg (by decide)) ⟨jx_mem 762 rfl rfl, jx_mem 24 rfl rfl⟩⟩
set_option maxRecDepth 100000 in
theorem jx_ok_94 : jx_ok 94 := ⟨jx_mem 738 rfl rfl, jx_mem 52 rfl rfl, rfl, by decide +kernel, ⟨by decide +kernel, by decide +kernel, by decide +kernel⟩, by decide, by decide, Eq.mpr (if_neg (by decide)) ⟨jx_mem 736 rfl rfl, jx_mem 737 rfl rfl⟩⟩
set_option maxRecDepth 100000 in
theorem jx_ok_95 : jx_ok 95 := ⟨jx_mem 779 rfl rfl, jx_mem 52 rfl rfl, rfl, by decide +kernel, ⟨by decide +kernel, by decide +kernel, by decide +kernel⟩, by decide, by decide, Eq.mpr (if_neg (by decide)) ⟨jx_mem 778 rfl rfl, jx_mem 28 rfl rfl⟩⟩
set_option maxRecDepth 100000 in
theorem jx_ok_96 : jx_ok 96 := ⟨jx_mem 759 rfl rfl, jx_mem 52 rfl rfl, rfl, by decide +kernel, ⟨by decide +kernel, by decide +kernel, by decide +kernel⟩, by decide, by decide, Eq.mpr (if_neg (by decide)) ⟨jx_mem 758 rfl rfl, jx_mem 23 rfl rfl⟩⟩
set_option maxRecDepth 100000 in
theorem jx_ok_97 : jx_ok 97 := ⟨jx_mem 771 rfl rfl, jx_mem 52 rfl rfl, rfl, by decide +kernel, ⟨by decide +kernel, by decide +kernel, by decide +kernel⟩, by decide, by decide, Eq.mpr (if_neg (by decide)) ⟨jx_mem 770 rfl rfl, jx_mem 26 rfl rfl⟩⟩
set_option maxRecDepth 100000 in
theorem jx_ok_98 : jx_ok 98 := ⟨jx_mem 775 rfl rfl, jx_mem 52 rfl rfl, rfl, by decide +kernel, ⟨by decide +kernel, by decide +kernel, by decide +kernel⟩, by decide, by decide, Eq.mpr (if_neg (by decide)) ⟨jx_mem 774 rfl rfl, jx_mem 27 rfl rfl⟩⟩
set_option maxRecDepth 100000 in
theorem jx_ok_99 : jx_ok 99 := ⟨jx_mem 791 rfl rfl, jx_mem 52 rfl rfl, rfl, by decide +kernel, ⟨by decide +kernel, by decide +kernel, by decide +kernel⟩, by decide, by decide, Eq.mpr (if_neg (by decide)) ⟨jx_mem 790 rfl rfl, jx_mem 30 rfl rfl⟩⟩
set_option maxRecDepth 100000 in
theorem jx_ok_100 : jx_ok 100 := ⟨jx_mem 783 rfl rfl, jx_mem 52 rfl rfl, rfl, by decide +kernel, ⟨by decide +kernel, by decide +kernel, by decide +kernel⟩, by decide, by decide, Eq.mpr (if_neg (by decide)) ⟨jx_mem 781 rfl rfl, jx_mem 782 rfl rfl⟩⟩
set_option maxRecDepth 100000 in
theorem jx_ok_101 : jx_ok 101 := ⟨jx_mem 795 rfl rfl, jx_mem 52 rfl rfl, rfl, by decide +kernel, ⟨by decide +kernel, by decide +kernel, by decide +kernel⟩, by decide, by decide, Eq.mpr (if_neg (by decide)) ⟨jx_mem 793 rfl rfl, jx_mem 794 rfl rfl⟩⟩
set_option maxRecDepth 100000 in
theorem jx_ok_102 : jx_ok 102 := ⟨jx_mem 803 rfl rfl, jx_mem 52 rfl rfl, rfl, by decide +kernel, ⟨by decide +kernel, by decide +kernel, by decide +kernel⟩, by decide, by decide, Eq.mpr (if_neg (by decide)) ⟨jx_mem 801 rfl rfl, jx_mem 802 rfl rfl⟩⟩
set_option maxRecDepth 100000 in
theorem jx_ok_103 : jx_ok 103 := ⟨jx_mem 807 rfl rfl, jx_mem 52 rfl rfl, rfl, by decide +kernel, ⟨by decide +kernel, by decide +kernel, by decide +kernel⟩, by decide, by decide, Eq.mpr (if_neg (by decide)) ⟨jx_mem 805 rfl rfl, jx_mem 806 rfl rfl⟩⟩
set_option maxRecDepth 100000 in
theorem jx_ok_104 : jx_ok 104 := ⟨jx_mem 811 rfl rfl, jx_mem 52 rfl rfl, rfl, by decide +kernel, ⟨by decide +kernel, by decide +kernel, by decide +kernel⟩, by decide, by decide, Eq.mpr (if_neg (by decide)) ⟨jx_mem 809 rfl rfl, jx_mem 810 rfl rfl⟩⟩
set_option maxRecDepth 100000 in
theorem jx_ok_105 : jx_ok 105 := ⟨jx_mem 822 rfl rfl, jx_mem 52 rfl rfl, rfl, by decide +kernel, ⟨by decide +kernel, by decide +kernel, by decide +kernel⟩, by decide, by decide, Eq.mpr (if_neg (by decide)) ⟨jx_mem 821 rfl rfl, jx_mem 32 rfl rfl⟩⟩
set_option maxRecDepth 100000 in
theorem jx_ok_106 : jx_ok 106 := ⟨jx_mem 818 rfl rfl, jx_mem 52 rfl rfl, rfl, by decide +kernel, ⟨by decide +kernel, by decide +kernel, by decide +kernel⟩, by decide, by decide, Eq.mpr (if_pos rfl) (jx_mem 817 rfl rfl)⟩
set_option maxRecDepth 100000 in
theorem jx_ok_107 : jx_ok 107 := ⟨jx_mem 815 rfl rfl, jx_mem 52 rfl rfl, rfl, by decide +kernel, ⟨by decide +kernel, by decide +kernel, by decide +kernel⟩, by decide, by decide, Eq.mpr (if_neg (by decide)) ⟨jx_mem 813 rfl rfl, jx_mem 814 rfl rfl⟩⟩
set_option maxRecDepth 100000 in
theorem jx_ok_108 : jx_ok 108 := ⟨jx_mem 830 rfl rfl, jx_mem 52 rfl rfl, rfl, by decide +kernel, ⟨by decide +kernel, by decide +kernel, by decide +kernel⟩, by decide, by decide, Eq.mpr (if_neg (by decide)) ⟨jx_mem 829 rfl rfl, jx_mem 33 rfl rfl⟩⟩
set_option maxRecDepth 100000 in
theorem jx_ok_109 : jx_ok 109 := ⟨jx_mem 826 rfl rfl, jx_mem 52 rfl rfl, rfl, by decide +kernel, ⟨by decide +kernel, by decide +kernel, by decide +kernel⟩, by decide, by decide, Eq.mpr (if_neg (by decide)) ⟨jx_mem 824 rfl rfl, jx_mem 825 rfl rfl⟩⟩
set_option maxRecDepth 100000 in
theorem jx_ok_110 : jx_ok 110 := ⟨jx_mem 834 rfl rfl, jx_mem 52 rfl rfl, rfl, by decide +kernel, ⟨by decide +kernel, by decide +kernel, by decide +kernel⟩, by decide, by decide, Eq.mpr (if_neg (by decide)) ⟨jx_mem 832 rfl rfl, jx_mem 833 rfl rfl⟩⟩
set_option maxRecDepth 100000 in
theorem jx_ok_111 : jx_ok 111 := ⟨jx_mem 846 rfl rfl, jx_mem 52 rfl rfl, rfl, by decide +kernel, ⟨by decide +kernel, by decide +kernel, by decide +kernel⟩, by decide, by decide, Eq.mpr (if_neg (by decide)) ⟨jx_mem 845 rfl rfl, jx_mem 35 rfl rfl⟩⟩
set_option maxRecDepth 100000 in
theorem jx_ok_112 : jx_ok 112 := ⟨jx_mem 838 rfl rfl, jx_mem 52 rfl rfl, rfl, by decide +kernel, ⟨by decide +kernel, by decide +kernel, by decide +kernel⟩, by decide, by decide, Eq.mpr (if_neg (by decide)) ⟨jx_mem 836 rfl rfl, jx_mem 837 rfl rfl⟩⟩
set_option maxRecDepth 100000 in
theorem jx_ok_113 : jx_ok 113 := ⟨jx_mem 842 rfl rfl, jx_mem 52 rfl rfl, rfl, by decide +kernel, ⟨by decide +kernel, by decide +kernel, by decide +kernel⟩, by decide, by decide, Eq.mpr (if_neg (by decide)) ⟨jx_mem 841 rfl rfl, jx_mem 34 rfl rfl⟩⟩
set_option maxRecDepth 100000 in
theorem jx_ok_114 : jx_ok 114 := ⟨jx_mem 854 rfl rfl, jx_mem 52 rfl rfl, rfl, by decide +kernel, ⟨by decide +kernel, by decide +kernel, by decide +kernel⟩, by decide, by decide, Eq.mpr (if_neg (by decide)) ⟨jx_mem 853 rfl rfl, jx_mem 36 rfl rfl⟩⟩
set_option maxRecDepth 100000 in
theorem jx_ok_115 : jx_ok 115 := ⟨jx_mem 850 rfl rfl, jx_mem 52 rfl rfl, rfl, by decide +kernel, ⟨by decide +kernel, by decide +kernel, by decide +kernel⟩, by decide, by decide, Eq.mpr (if_neg (by decide)) ⟨jx_mem 848 rfl rfl, jx_mem 849 rfl rfl⟩⟩
set_option maxRecDepth 100000 in
theorem jx_ok_116 : jx_ok 116 := ⟨jx_mem 862 rfl rfl, jx_mem 52 rfl rfl, rfl, by decide +kernel, ⟨by decide +kernel, by decide +kernel, by decide +kernel⟩, by decide, by decide, Eq.mpr (if_neg (by decide)) ⟨jx_mem 861 rfl rfl, jx_mem 37 rfl rfl⟩⟩
set_option maxRecDepth 100000 in
theorem jx_ok_117 : jx_ok 117 := ⟨jx_mem 858 rfl rfl, jx_mem 52 rfl rfl, rfl, by decide +kernel, ⟨by decide +kernel, by decide +kernel, by decide +kernel⟩, by decide, by decide, Eq.mpr (if_neg (by decide)) ⟨jx_mem 856 rfl rfl, jx_mem 857 rfl rfl⟩⟩
set_option maxRecDepth 100000 in
theorem jx_ok_118 : jx_ok 118 := ⟨jx_mem 874 rfl rfl, jx_mem 52 rfl rfl, rfl, by decide +kernel, ⟨by decide +kernel, by decide +kernel, by decide +kernel⟩, by decide, by decide, Eq.mpr (if_neg (by decide)) ⟨jx_mem 873 rfl rfl, jx_mem 39 rfl rfl⟩⟩
set_option maxRecDepth 100000 in
theorem jx_ok_119 : jx_ok 119 := ⟨jx_mem 870 rfl rfl, jx_mem 52 rfl rfl, rfl, by decide +kernel, ⟨by decide +kernel, by decide +kernel, by decide +kernel⟩, by decide, by decide, Eq.mpr (if_neg (by decide)) ⟨jx_mem 869 rfl rfl, jx_mem 38 rfl rfl⟩⟩
set_option maxRecDepth 100000 in
theorem jx_ok_120 : jx_ok 120 := ⟨jx_mem 866 rfl rfl, jx_mem 52 rfl rfl, rfl, by decide +kernel, ⟨by decide +kernel, by decide +kernel, by decide +kernel⟩, by decide, by decide, Eq.mpr (if_neg (by decide)) ⟨jx_mem 864 rfl rfl, jx_mem 865 rfl rfl⟩⟩
set_option maxRecDepth 100000 in
theorem jx_ok_121 : jx_ok 121 := ⟨jx_mem 878 rfl rfl, jx_mem 52 rfl rfl, rfl, by decide +kernel, ⟨by decide +kernel, by decide +kernel, by decide +kernel⟩, by decide, by decide, Eq.mpr (if_neg (by decide)) ⟨jx_mem 876 rfl rfl, jx_mem 877 rfl rfl⟩⟩
set_option maxRecDepth 100000 in
theorem jx_ok_122 : jx_ok 122 := ⟨jx_mem 882 rfl rfl, jx_mem 52 rfl rfl, rfl, by decide +kernel, ⟨by decide +kernel, by decide +kernel, by decide +kernel⟩, by decide, by decide, Eq.mpr (if_neg (by decide)) ⟨jx_mem 880 rfl rfl, jx_mem 881 rfl rfl⟩⟩
set_option maxRecDepth 100000 in
theorem jx_ok_123 : jx_ok 123 := ⟨jx_mem 890 rfl rfl, jx_mem 52 rfl rfl, rfl, by decide +kernel, ⟨by decide +kernel, by decide +kernel, by decide +kernel⟩, by decide, by decide, Eq.mpr (if_neg (by decide)) ⟨jx_mem 889 rfl rfl, jx_mem 40 rfl rfl⟩⟩
set_option maxRecDepth 100000 in
theorem jx_ok_124 : jx_ok 124 := ⟨jx_mem 886 rfl rfl, jx_mem 52 rfl rfl, rfl, by decide +kernel, ⟨by decide +kernel, by decide +kernel, by decide +kernel⟩, by decide, by decide, Eq.mpr (if_neg (by decide)) ⟨jx_mem 884 rfl rfl, jx_mem 885 rfl rfl⟩⟩
set_option maxRecDepth 100000 in
theorem jx_ok_125 : jx_ok 125 := ⟨jx_mem 894 rfl rfl, jx_mem 52 rfl rfl, rfl, by decide +kernel, ⟨by decide +kernel, by decide +kernel, by decide +kernel⟩, by decide, by decide, Eq.mpr (if_neg (by decide)) ⟨jx_mem 892 rfl rfl, jx_mem 893 rfl rfl⟩⟩
set_option maxRecDepth 100000 in
theorem jx_ok_126 : jx_ok 126 := ⟨jx_mem 898 rfl rfl, jx_mem 52 rfl rfl, rfl, by decide +kernel, ⟨by decide +kernel, by decide +kernel, by decide +kernel⟩, by decide, by decide, Eq.mpr (if_neg (by decide)) ⟨jx_mem 896 rfl rfl, jx_mem 897 rfl rfl⟩⟩
set_option maxRecDepth 100000 in
theorem jx_ok_127 : jx_ok 127 := ⟨jx_mem 906 rfl rfl, jx_mem 52 rfl rfl, rfl, by decide +kernel, ⟨by decide +kernel, by decide +kernel, by decide +kernel⟩, by decide, by decide, Eq.mpr (if_pos rfl) (jx_mem 905 rfl rfl)⟩
set_option maxRecDepth 100000 in
theorem jx_ok_128 : jx_ok 128 := ⟨jx_mem 902 rfl rfl, jx_mem 52 rfl rfl, rfl, by decide +kernel, ⟨by decide +kernel, by decide +kernel, by decide +kernel⟩, by decide, by decide, Eq.mpr (if_neg (by decide)) ⟨jx_mem 900 rfl rfl, jx_mem 901 rfl rfl⟩⟩
set_option maxRecDepth 100000 in
theorem jx_ok_129 : jx_ok 129 := ⟨jx_mem 910 rfl rfl, jx_mem 52 rfl rfl, rfl, by decide +kernel, ⟨by decide +kernel, by decide +kernel, by decide +kernel⟩, by decide, by decide, Eq.mpr (if_neg (by decide)) ⟨jx_mem 908 rfl rfl, jx_mem 909 rfl rfl⟩⟩
set_option maxRecDepth 100000 in
theorem jx_ok_130 : jx_ok 130 := ⟨jx_mem 914 rfl rfl, jx_mem 52 rfl rfl, rfl, by decide +kernel, ⟨by decide +kernel, by decide +kernel, by decide +kernel⟩, by decide, by decide, Eq.mpr (if_neg (by decide)) ⟨jx_mem 912 rfl rfl, jx_mem 913 rfl rfl⟩⟩
set_option maxRecDepth 100000 in
theorem jx_ok_131 : jx_ok 131 := ⟨jx_mem 918 rfl rfl, jx_mem 52 rfl rfl, rfl, by decide +kernel, ⟨by decide +kernel, by decide +kernel, by decide +kernel⟩, by decide, by decide, Eq.mpr (if_neg (by decide)) ⟨jx_mem 916 rfl rfl, jx_mem 917 rfl rfl⟩⟩
set_option maxRecDepth 100000 in
theorem jx_ok_132 : jx_ok 132 := ⟨jx_mem 922 rfl rfl, jx_mem 52 rfl rfl, rfl, by decide +kernel, ⟨by decide +kernel, by decide +kernel, by decide +kernel⟩, by decide, by decide, Eq.mpr (if_neg (by decide)) ⟨jx_mem 920 rfl rfl, jx_mem 921 rfl rfl⟩⟩
set_option maxRecDepth 100000 in
theorem jx_ok_133 : jx_ok 133 := ⟨jx_mem 930 rfl rfl, jx_mem 52 rfl rfl, rfl, by decide +kernel, ⟨by decide +kernel, by decide +kernel, by decide +kernel⟩, by decide, by decide, Eq.mpr (if_neg (by decide)) ⟨jx_mem 928 rfl rfl, jx_mem 929 rfl rfl⟩⟩
set_option maxRecDepth 100000 in
theorem jx_ok_134 : jx_ok 134 := ⟨jx_mem 938 rfl rfl, jx_mem 52 rfl rfl, rfl, by decide +kernel, ⟨by decide +kernel, by decide +kernel, by decide +kernel⟩, by decide, by decide, Eq.mpr (if_neg (by decide)) ⟨jx_mem 937 rfl rfl, jx_mem 42 rfl rfl⟩⟩
set_option maxRecDepth 100000 in
theorem jx_ok_135 : jx_ok 135 := ⟨jx_mem 934 rfl rfl, jx_mem 52 rfl rfl, rfl, by decide +kernel, ⟨by decide +kernel, by decide +kernel, by decide +kernel⟩, by decide, by decide, Eq.mpr (if_neg (by decide)) ⟨jx_mem 932 rfl rfl, jx_mem 933 rfl rfl⟩⟩
set_option maxRecDepth 100000 in
theorem jx_ok_136 : jx_ok 136 := ⟨jx_mem 942 rfl rfl, jx_mem 52 rfl rfl, rfl, by decide +kernel, ⟨by decide +kernel, by decide +kernel, by decide +kernel⟩, by decide, by decide, Eq.mpr (if_neg (by decide)) ⟨jx_mem 940 rfl rfl, jx_mem 941 rfl rfl⟩⟩
set_option maxRecDepth 100000 in
theorem jx_ok_137 : jx_ok 137 := ⟨jx_mem 946 rfl rfl, jx_mem 52 rfl rfl, rfl, by decide +kernel, ⟨by decide +kernel, by decide +kernel, by decide +kernel⟩, by decide, by decide, Eq.mpr (if_neg (by decide)) ⟨jx_mem 944 rfl rfl, jx_mem 945 rfl rfl⟩⟩
set_option maxRecDepth 100000 in
theorem jx_ok_138 : jx_ok 138 := ⟨jx_mem 950 rfl rfl, jx_mem 52 rfl rfl, rfl, by decide +kernel, ⟨by decide +kernel, by decide +kernel, by decide +kernel⟩, by decide, by decide, Eq.mpr (if_neg (by decide)) ⟨jx_mem 948 rfl rfl, jx_mem 949 rfl rfl⟩⟩
set_option maxRecDepth 100000 in
theorem jx_ok_139 : jx_ok 139 := ⟨jx_mem 954 rfl rfl, jx_mem 52 rfl rfl, rfl, by decide +kernel, ⟨by decide +kernel, by decide +kernel, by decide +kernel⟩, by decide, by decide, Eq.mpr (if_neg (by decide)) ⟨jx_mem 952 rfl rfl, jx_mem 953 rfl rfl⟩⟩
set_option maxRecDepth 100000 in
theorem jx_ok_140 : jx_ok 140 := ⟨jx_mem 958 rfl rfl, jx_mem 52 rfl rfl, rfl, by decide +kernel, ⟨by decide +kernel, by decide +kernel, by decide +kernel⟩, by decide, by decide, Eq.mpr (if_neg (by decide)) ⟨jx_mem 956 rfl rfl, jx_mem 957 rfl rfl⟩⟩
set_option maxRecDepth 100000 in
theorem jx_oks : ∀ y, y < 141 → jx_ok y
  | 0, _ => jx_ok_0
  | 1, _ => jx_ok_1
  | 2, _ => jx_ok_2
  | 3, _ => jx_ok_3
  | 4, _ => jx_ok_4
  | 5, _ => jx_ok_5
  | 6, _ => jx_ok_6
  | 7, _ => jx_ok_7
  | 8, _ => jx_ok_8
  | 9, _ => jx_ok_9
  | 10, _ => jx_ok_10
  | 11, _ => jx_ok_11
  | 12, _ => jx_ok_12
  | 13, _ => jx_ok_13
  | 14, _ => jx_ok_14
  | 15, _ => jx_ok_15
  | 16, _ => jx_ok_16
  | 17, _ => jx_ok_17
  | 18, _ => jx_ok_18
  | 19, _ => jx_ok_19
  | 20, _ => jx_ok_20
  | 21, _ => jx_ok_21
  | 22, _ => jx_ok_22
  | 23, _ => jx_ok_23
  | 24, _ => jx_ok_24
  | 25, _ => jx_ok_25
  | 26, _ => jx_ok_26
  | 27, _ => jx_ok_27
  | 28, _ => jx_ok_28
  | 29, _ => jx_ok_29
  | 30, _ => jx_ok_30
  | 31, _ => jx_ok_31
  | 32, _ => jx_ok_32
  | 33, _ => jx_ok_33
  | 34, _ => jx_ok_34
  | 35, _ => jx_ok_35
  | 36, _ => jx_ok_36
  | 37, _ => jx_ok_37
  | 38, _ => jx_ok_38
  | 39, _ => jx_ok_39
  | 40, _ => jx_ok_40
  | 41, _ => jx_ok_41
  | 42, _ => jx_ok_42
  | 43, _ => jx_ok_43
  | 44, _ => jx_ok_44
  | 45, _ => jx_ok_45
  | 46, _ => jx_ok_46
  | 47, _ => jx_ok_47
  | 48, _ => jx_ok_48
  | 49, _ => jx_ok_49
  | 50, _ => jx_ok_50
  | 51, _ => jx_ok_51
  | 52, _ => jx_ok_52
  | 53, _ => jx_ok_53
  | 54, _ => jx_ok_54
  | 55, _ => jx_ok_55
  | 56, _ => jx_ok_56
  | 57, _ => jx_ok_57
  | 58, _ => jx_ok_58
  | 59, _ => jx_ok_59
  | 60, _ => jx_ok_60
  | 61, _ => jx_ok_61
  | 62, _ => jx_ok_62
  | 63, _ => jx_ok_63
  | 64, _ => jx_ok_64
  | 65, _ => jx_ok_65
  | 66, _ => jx_ok_66
  | 67, _ => jx_ok_67
  | 68, _ => jx_ok_68
  | 69, _ => jx_ok_69
  | 70, _ => jx_ok_70
  | 71, _ => jx_ok_71
  | 72, _ => jx_ok_72
  | 73, _ => jx_ok_73
  | 74, _ => jx_ok_74
  | 75, _ => jx_ok_75
  | 76, _ => jx_ok_76
  | 77, _ => jx_ok_77
  | 78, _ => jx_ok_78
  | 79, _ => jx_ok_79
  | 80, _ => jx_ok_80
  | 81, _ => jx_ok_81
  | 82, _ => jx_ok_82
  | 83, _ => jx_ok_83
  | 84, _ => jx_ok_84
  | 85, _ => jx_ok_85
  | 86, _ => jx_ok_86
  | 87, _ => jx_ok_87
  | 88, _ => jx_ok_88
  | 89, _ => jx_ok_89
  | 90, _ => jx_ok_90
  | 91, _ => jx_ok_91
  | 92, _ => jx_ok_92
  | 93, _ => jx_ok_93
  | 94, _ => jx_ok_94
  | 95, _ => jx_ok_95
  | 96, _ => jx_ok_96
  | 97, _ => jx_ok_97
  | 98, _ => jx_ok_98
  | 99, _ => jx_ok_99
  | 100, _ => jx_ok_100
  | 101, _ => jx_ok_101
  | 102, _ => jx_ok_102
  | 103, _ => jx_ok_103
  | 104, _ => jx_ok_104
  | 105, _ => jx_ok_105
  | 106, _ => jx_ok_106
  | 107, _ => jx_ok_107
  | 108, _ => jx_ok_108
  | 109, _ => jx_ok_109
  | 110, _ => jx_ok_110
  | 111, _ => jx_ok_111
  | 112, _ => jx_ok_112
  | 113, _ => jx_ok_113
  | 114, _ => jx_ok_114
  | 115, _ => jx_ok_115
  | 116, _ => jx_ok_116
  | 117, _ => jx_ok_117
  | 118, _ => jx_ok_118
  | 119, _ => jx_ok_119
  | 120, _ => jx_ok_120
  | 121, _ => jx_ok_121
  | 122, _ => jx_ok_122
  | 123, _ => jx_ok_123
  | 124, _ => jx_ok_124
  | 125, _ => jx_ok_125
  | 126, _ => jx_ok_126
  | 127, _ => jx_ok_127
  | 128, _ => jx_ok_128
  | 129, _ => jx_ok_129
  | 130, _ => jx_ok_130
  | 131, _ => jx_ok_131
  | 132, _ => jx_ok_132
  | 133, _ => jx_ok_133
  | 134, _ => jx_ok_134
  | 135, _ => jx_ok_135
  | 136, _ => jx_ok_136
  | 137, _ => jx_ok_137
  | 138, _ => jx_ok_138
  | 139, _ => jx_ok_139
  | 140, _ => jx_ok_140
  | y + 141, h => absurd h (by omega)
set_option maxRecDepth 100000 in
theorem jx_cin : ∀ ci, ci < 9 → ∀ w ∈ u_ws (jx_rx ci) (jx_T ci) (jx_N ci), w ∈ jx_TB
  | 0, _ => fun w h => List.mem_filter.mpr ⟨(by decide +kernel : ∀ w ∈ u_ws RX0 TX0 6, w ∈ lw_tbl) w h, (by decide +kernel : ∀ w ∈ u_ws RX0 TX0 6, goodWord w = true) w h⟩
  | 1, _ => fun w h => List.mem_filter.mpr ⟨(by decide +kernel : ∀ w ∈ u_ws RX1 TX1 9, w ∈ lw_tbl) w h, (by decide +kernel : ∀ w ∈ u_ws RX1 TX1 9, goodWord w = true) w h⟩
  | 2, _ => fun w h => List.mem_filter.mpr ⟨(by decide +kernel : ∀ w ∈ u_ws RX2 TX2 1, w ∈ lw_tbl) w h, (by decide +kernel : ∀ w ∈ u_ws RX2 TX2 1, goodWord w = true) w h⟩
  | 3, _ => fun w h => List.mem_filter.mpr ⟨(by decide +kernel : ∀ w ∈ u_ws RX3 TX3 4, w ∈ lw_tbl) w h, (by decide +kernel : ∀ w ∈ u_ws RX3 TX3 4, goodWord w = true) w h⟩
  | 4, _ => fun w h => List.mem_filter.mpr ⟨(by decide +kernel : ∀ w ∈ u_ws RX4 TX4 4, w ∈ lw_tbl) w h, (by decide +kernel : ∀ w ∈ u_ws RX4 TX4 4, goodWord w = true) w h⟩
  | 5, _ => fun w h => List.mem_filter.mpr ⟨(by decide +kernel : ∀ w ∈ u_ws RX5 TX5 4, w ∈ lw_tbl) w h, (by decide +kernel : ∀ w ∈ u_ws RX5 TX5 4, goodWord w = true) w h⟩
  | 6, _ => fun w h => List.mem_filter.mpr ⟨(by decide +kernel : ∀ w ∈ u_ws RX6 TX6 5, w ∈ lw_tbl) w h, (by decide +kernel : ∀ w ∈ u_ws RX6 TX6 5, goodWord w = true) w h⟩
  | 7, _ => fun w h => List.mem_filter.mpr ⟨(by decide +kernel : ∀ w ∈ u_ws RX7 TX7 10, w ∈ lw_tbl) w h, (by decide +kernel : ∀ w ∈ u_ws RX7 TX7 10, goodWord w = true) w h⟩
  | 8, _ => fun w h => List.mem_filter.mpr ⟨(by decide +kernel : ∀ w ∈ u_ws RX8 TX8 31, w ∈ lw_tbl) w h, (by decide +kernel : ∀ w ∈ u_ws RX8 TX8 31, goodWord w = true) w h⟩
  | ci + 9, h => absurd h (by omega)
set_option maxRecDepth 100000 in
theorem jx_cty : ∀ ci, ci < 9 → ∀ k, k < jx_N ci → parseFieldDescriptor (jx_T ci k).2.2.1 = some (jx_ty ci k)
  | 0, _ => tyX0_ok
  | 1, _ => tyX1_ok
  | 2, _ => tyX2_ok
  | 3, _ => tyX3_ok
  | 4, _ => tyX4_ok
  | 5, _ => tyX5_ok
  | 6, _ => tyX6_ok
  | 7, _ => tyX7_ok
  | 8, _ => tyX8_ok
  | ci + 9, h => absurd h (by omega)
set_option maxRecDepth 100000 in
theorem jx_cnm : ∀ ci, ci < 9 → ∀ a, a < jx_N ci → ∀ b, b < jx_N ci → a ≠ b → (jx_T ci a).2.1 ≠ (jx_T ci b).2.1
  | 0, _ => nmX0
  | 1, _ => nmX1
  | 2, _ => nmX2
  | 3, _ => nmX3
  | 4, _ => nmX4
  | 5, _ => nmX5
  | 6, _ => nmX6
  | 7, _ => nmX7
  | 8, _ => nmX8
  | ci + 9, h => absurd h (by omega)
set_option maxRecDepth 100000 in
theorem jx_vcl : ∀ ci, ci < 9 → vwCl[ci]? = some (jx_rx ci, jx_T ci, jx_N ci)
  | 0, _ => rfl
  | 1, _ => rfl
  | 2, _ => rfl
  | 3, _ => rfl
  | 4, _ => rfl
  | 5, _ => rfl
  | 6, _ => rfl
  | 7, _ => rfl
  | 8, _ => rfl
  | ci + 9, h => absurd h (by omega)
/-- what a kind of field says -/
def jx_fkP (ci j : Nat) : Bool := match jx_fk ci j with
  | 0 => !(jx_T ci j).2.2.2 && decide (jx_ty ci j = .int)
  | 1 => !(jx_T ci j).2.2.2 && decide (jx_ty ci j = .boolean)
  | 2 => !(jx_T ci j).2.2.2 && (decide (jx_ty ci j = .object RX1) || decide (jx_ty ci j = .object RX4))
  | _ => true
set_option maxRecDepth 100000 in
theorem jx_fko : ∀ ci, ci < 9 → ∀ j, j < jx_N ci → jx_fkP ci j = true := by decide +kernel
set_option maxRecDepth 100000 in
theorem jx_shc : ∀ k, k < 56 → (jx_cl k = 9 ∨ jx_cl k = 10 ∧ k = 1 ∧ jx_sz k = 4 ∨ jx_cl k < 9 ∧ jx_sz k = jx_N (jx_cl k)) := by decide +kernel
set_option maxRecDepth 100000 in
theorem jx_klt {k ci : Nat} (h : jx_cl k = ci) (hc : ci < 99) : k < 56 := by
  rcases Nat.lt_or_ge k 56 with q | q
  · exact q
  · exfalso
    have e : jx_cl k = 99 := by
      have h2 : jx_shL[k]? = none := List.getElem?_eq_none q
      simp [jx_cl, List.getD, h2]
    omega
set_option maxRecDepth 100000 in
theorem jx_bw_2_46 : Cond.methodLink (jx_rx 2) 46 Lib.Math.max.name ∈ jx_TB := jx_mem 448 rfl rfl
set_option maxRecDepth 100000 in
theorem jx_bw_0_64 : Cond.methodLink (jx_rx 0) 64 Lib.Math.max.name ∈ jx_TB := jx_mem 484 rfl rfl
set_option maxRecDepth 100000 in
theorem jx_bw_5_28 : Cond.methodLink (jx_rx 5) 28 Lib.Math.min.name ∈ jx_TB := jx_mem 493 rfl rfl
set_option maxRecDepth 100000 in
theorem jx_bw_5_52 : Cond.methodLink (jx_rx 5) 52 Lib.Math.abs.name ∈ jx_TB := jx_mem 514 rfl rfl
set_option maxRecDepth 100000 in
theorem jx_bw_7_228 : Cond.methodLink (jx_rx 7) 228 arraycopyName ∈ jx_TB := jx_mem 592 rfl rfl
set_option maxRecDepth 100000 in
theorem jx_bw_8_183 : Cond.methodLink (jx_rx 8) 183 yX8_inLeastTerms ∈ jx_TB := jx_mem 904 rfl rfl
set_option maxRecDepth 100000 in
theorem jx_bs_max : Cond.static Lib.Math.max.name ∈ jx_TB := jx_mem 449 rfl rfl
set_option maxRecDepth 100000 in
theorem jx_bc_max : Cond.code Lib.Math.max.name Lib.Math.max.code 2 (some .int) ∈ jx_TB := jx_mem 450 rfl rfl
set_option maxRecDepth 100000 in
theorem jx_bs_min : Cond.static Lib.Math.min.name ∈ jx_TB := jx_mem 494 rfl rfl
set_option maxRecDepth 100000 in
theorem jx_bc_min : Cond.code Lib.Math.min.name Lib.Math.min.code 2 (some .int) ∈ jx_TB := jx_mem 495 rfl rfl
set_option maxRecDepth 100000 in
theorem jx_bs_abs : Cond.static Lib.Math.abs.name ∈ jx_TB := jx_mem 515 rfl rfl
set_option maxRecDepth 100000 in
theorem jx_bc_abs : Cond.code Lib.Math.abs.name Lib.Math.abs.code 1 (some .int) ∈ jx_TB := jx_mem 516 rfl rfl
set_option maxRecDepth 100000 in
theorem jx_bini : Cond.initialized "java/lang/Math" ∈ jx_TB := jx_mem 53 rfl rfl
set_option maxRecDepth 100000 in
theorem jx_binis : Cond.initialized "java/lang/System" ∈ jx_TB := jx_mem 54 rfl rfl
set_option maxRecDepth 100000 in
theorem jx_bacs : Cond.static arraycopyName ∈ jx_TB := jx_mem 593 rfl rfl
set_option maxRecDepth 100000 in
theorem jx_bacn : Cond.native arraycopyName ∈ jx_TB := jx_mem 594 rfl rfl
set_option maxRecDepth 100000 in
theorem jx_k0 : Cond.constant (jx_rx 0) 34 2147483647 ∈ jx_TB := jx_mem 469 rfl rfl
set_option maxRecDepth 100000 in
theorem jx_k7 : Cond.constantLong (jx_rx 7) 203 (-9223372036854775808) ∈ jx_TB := jx_mem 561 rfl rfl
set_option maxRecDepth 100000 in
theorem jx_k8 : Cond.constantLong (jx_rx 8) 71 (-9223372036854775808) ∈ jx_TB := jx_mem 903 rfl rfl
