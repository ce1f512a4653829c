/-! CONTRACTS OF THE CLASS: what they say (printed by wip/p2/gen_print3.py) -/
/-- DimShelf.put -/
abbrev ap_c17 : ak_Con := (17, [.inr (some ([62], false)), .inl ((-2147483648), 2147483647)], none, ([64], [(10, 1)]), [], [], [], 0, 0, [], [], [])
/-- DimShelf.feed -/
abbrev ap_c16 : ak_Con := (16, [.inr (some ([62], false)), .inl ((-2147483648), 2147483647), .inl ((-2147483648), 2147483647), .inl ((-2147483648), 2147483647), .inl ((-2147483648), 2147483647), .inl ((-2147483648), 2147483647)], some (.inl ((-1), 4000)), ([64], [(10, 1)]), [], [], [], 0, 0, [], [], [])
/-- DimShelf.back -/
abbrev ap_c18 : ak_Con := (18, [.inr (some ([62], false)), .inl ((-2147483648), 2147483647)], some (.inl ((-1), 4000)), ([], [(10, 1)]), [], [], [], 0, 0, [], [], [])
/-- DimShelf.place -/
abbrev ap_c153 : ak_Con := (153, [.inr (some ([62], false))], some (.inl ((-2147483648), 2147483647)), ([], []), [], [], [], 0, 0, [], [], [])
/-- DimShelf$Worker.judgedTrue -/
abbrev ap_c147 : ak_Con := (147, [.inr (some ([61], false)), .inl ((-1), 1023)], some (.inl (0, 1)), ([], []), [], [], [], 0, 0, [], [], [])
/-- DimShelf$Shelf.hold -/
abbrev ap_c6 : ak_Con := (6, [.inr (some ([59], false))], none, ([70], [(7, 14)]), [], [], [], 0, 0, [], [], [])
/-- DimShelf$Shelf.addPart -/
abbrev ap_c148 : ak_Con := (148, [.inr (some ([59], false)), .inr (some ([61], false))], none, ([69, 70], [(7, 14), (7, 15)]), [], [], [], 0, 0, [], [], [])
/-- DimShelf$Listing.forget -/
abbrev ap_c151 : ak_Con := (151, [.inr (some ([54], false))], none, ([], [(2, 0)]), [], [], [], 0, 0, [], [], [])
/-- DimShelf$Reason.forget -/
abbrev ap_c152 : ak_Con := (152, [.inr (some ([57], false))], none, ([], [(5, 0)]), [], [], [], 0, 0, [], [], [])
/-- DimShelf.forget -/
abbrev ap_c150 : ak_Con := (150, [.inr (some ([62], false))], none, ([], [(2, 0), (5, 0)]), [], [], [], 0, 0, [], [], [])
/-- DimShelf.judged -/
abbrev ap_c155 : ak_Con := (155, [.inr (some ([62], false))], some (.inl (0, 1)), ([97], [(9, 7), (9, 8), (9, 9), (9, 10), (9, 11), (9, 12), (10, 2)]), [], [], [], 0, 0, [], [], [])
/-- DimShelf$Shelf.heldWorld -/
abbrev ap_c158 : ak_Con := (158, [.inr (some ([59], false)), .inl ((-2147483648), 2147483647)], some (.inl ((-1), 1023)), ([], []), [], [], [], 0, 0, [], [], [])
/-- DimShelf$Shelf.heldWith -/
abbrev ap_c157 : ak_Con := (157, [.inr (some ([59], false)), .inr (some ([61], false))], some (.inl ((-2147483648), 2147483647)), ([], []), [], [], [], 0, 0, [], [], [])
/-- DimShelf$Tokens.isBlank -/
abbrev ap_c22 : ak_Con := (22, [.inl (0, 65535)], some (.inl (0, 1)), ([], []), [], [], [], 0, 0, [], [], [])
/-- DimShelf$Tokens.isLetter -/
abbrev ap_c24 : ak_Con := (24, [.inl (0, 65535)], some (.inl (0, 1)), ([], []), [], [], [], 0, 0, [], [], [])
/-- DimShelf$Tokens.isDigit -/
abbrev ap_c26 : ak_Con := (26, [.inl (0, 65535)], some (.inl (0, 1)), ([], []), [], [], [], 0, 0, [], [], [])
/-- DimShelf$Tokens.kindOf -/
abbrev ap_c28 : ak_Con := (28, [.inr none], some (.inl (3, 19)), ([], []), [], [], [], 0, 0, [], [], [])
/-- DimShelf$Tokens.isSign -/
abbrev ap_c30 : ak_Con := (30, [.inl (0, 65535)], some (.inl (0, 1)), ([], []), [], [], [], 0, 0, [], [], [])
/-- DimShelf$Tokens.wordAt -/
abbrev ap_c37 : ak_Con := (37, [.inr (some ([60], false)), .inl ((-2147483648), 2147483647)], some (.inr none), ([], []), [], [], [], 0, 0, [], [], [])
/-- DimShelf$Parser.hasRoomForTable -/
abbrev ap_c36 : ak_Con := (36, [.inr (some ([55], false))], some (.inl (0, 1)), ([84, 85], [(3, 9)]), [], [], [], 0, 0, [], [], [])
/-- DimShelf$Parser.hasRoomForRow -/
abbrev ap_c38 : ak_Con := (38, [.inr (some ([55], false))], some (.inl (0, 1)), ([85], []), [], [], [], 0, 0, [], [], [])
/-- DimShelf$Parser.hasRoom -/
abbrev ap_c35 : ak_Con := (35, [.inr (some ([55], false)), .inl (170, 255)], some (.inl (0, 1)), ([84, 85], [(3, 8), (3, 9), (3, 10), (3, 11), (3, 12), (3, 13), (3, 14)]), [], [], [], 0, 0, [], [], [])
/-- DimShelf$Tokens.startAt -/
abbrev ap_c43 : ak_Con := (43, [.inr (some ([60], false)), .inl ((-2147483648), 2147483647)], some (.inl ((-2147483648), 2147483647)), ([], []), [], [], [], 0, 0, [], [], [])
/-- DimShelf$Tokens.kindAt -/
abbrev ap_c46 : ak_Con := (46, [.inr (some ([60], false)), .inl (0, 1000000)], some (.inl ((-2147483648), 2147483647)), ([], []), [], [], [], 0, 0, [], [], [])
/-- DimShelf$Grammar.textRule -/
abbrev ap_c48 : ak_Con := (48, [.inl ((-2147483648), 2147483647)], some (.inr (some ([1, 2, 3, 4, 5, 6], true))), ([], []), [], [], [], 0, 0, [], [], [])
/-- DimShelf$Grammar.tellRule -/
abbrev ap_c49 : ak_Con := (49, [.inl (131, 137), .inl ((-2147483648), 2147483647)], some (.inr (some ([6, 7, 8, 9, 10, 11, 12, 13, 14, 15], true))), ([], []), [], [], [], 0, 0, [], [], [])
/-- DimShelf$Grammar.relationRule -/
abbrev ap_c51 : ak_Con := (51, [.inl ((-2147483648), 2147483647)], some (.inr (some ([23, 24, 25, 26], true))), ([], []), [], [], [], 0, 0, [], [], [])
/-- DimShelf$Grammar.condRule -/
abbrev ap_c50 : ak_Con := (50, [.inl (138, 144), .inl ((-2147483648), 2147483647)], some (.inr (some ([6, 16, 17, 18, 19, 20, 21, 22, 23, 24, 25, 26, 27, 28, 29], true))), ([], []), [], [], [], 0, 0, [], [], [])
/-- DimShelf$Grammar.stepRule -/
abbrev ap_c53 : ak_Con := (53, [.inl ((-2147483648), 2147483647)], some (.inr (some ([6, 37, 38, 39, 40], false))), ([], []), [], [], [], 0, 0, [], [], [])
/-- DimShelf$Grammar.foldRule -/
abbrev ap_c54 : ak_Con := (54, [.inl ((-2147483648), 2147483647)], some (.inr (some ([47, 48, 49, 50], true))), ([], []), [], [], [], 0, 0, [], [], [])
/-- DimShelf$Grammar.queryRule -/
abbrev ap_c52 : ak_Con := (52, [.inl (145, 169), .inl ((-2147483648), 2147483647)], some (.inr (some ([6, 30, 31, 32, 33, 34, 35, 36, 37, 38, 39, 40, 41, 42, 43, 44, 45, 46, 47, 48, 49, 50], true))), ([], []), [], [], [], 0, 0, [], [], [])
/-- DimShelf$Grammar.rule -/
abbrev ap_c47 : ak_Con := (47, [.inl (130, 169), .inl ((-2147483648), 2147483647)], some (.inr (some ([1, 2, 3, 4, 5, 6, 7, 8, 9, 10, 11, 12, 13, 14, 15, 16, 17, 18, 19, 20, 21, 22, 23, 24, 25, 26, 27, 28, 29, 30, 31, 32, 33, 34, 35, 36, 37, 38, 39, 40, 41, 42, 43, 44, 45, 46, 47, 48, 49, 50], true))), ([], []), [], [], [], 0, 0, [], [], [])
/-- DimShelf.learn -/
abbrev ap_c154 : ak_Con := (154, [.inr (some ([62], false))], some (.inl ((-3), 1024)), ([65, 66, 67, 69, 70, 72, 73, 74, 75, 76, 77, 78, 79, 80, 81, 82, 83, 84, 85, 86, 87, 88, 97], [(0, 2), (0, 5), (0, 7), (0, 8), (2, 0), (3, 5), (3, 6), (3, 7), (3, 8), (3, 9), (3, 10), (3, 11), (3, 12), (3, 13), (3, 14), (3, 15), (4, 4), (4, 5), (4, 6), (5, 0), (6, 3), (6, 4), (7, 11), (7, 12), (7, 13), (7, 14), (7, 15), (7, 16), (8, 3), (9, 7), (9, 8), (9, 9), (9, 10), (9, 11), (9, 12), (10, 1), (10, 2)]), [], [], [], 0, 0, [], [], [])
/-- DimShelf$Shelf.dropPart -/
abbrev ap_c160 : ak_Con := (160, [.inr (some ([59], false))], none, ([69, 70], [(7, 14), (7, 15)]), [], [], [], 0, 0, [], [], [])
/-- DimShelf.undo -/
abbrev ap_c159 : ak_Con := (159, [.inr (some ([62], false))], some (.inl (0, 1)), ([69, 70], [(2, 0), (5, 0), (7, 14), (7, 15), (7, 16)]), [], [], [], 0, 0, [], [], [])
/-- DimShelf$Shelf.keepAsked -/
abbrev ap_c162 : ak_Con := (162, [.inr (some ([59], false)), .inr (some ([61], false))], none, ([71], [(7, 17)]), [], [], [], 0, 0, [], [], [])
/-- DimShelf.ask -/
abbrev ap_c161 : ak_Con := (161, [.inr (some ([62], false))], some (.inl ((-2147483648), 2147483647)), ([65, 66, 67, 71, 72, 73, 74, 75, 76, 77, 78, 79, 80, 81, 82, 83, 84, 85, 86, 87, 88, 97], [(0, 2), (0, 5), (0, 7), (0, 8), (3, 5), (3, 6), (3, 7), (3, 8), (3, 9), (3, 10), (3, 11), (3, 12), (3, 13), (3, 14), (3, 15), (4, 4), (4, 5), (4, 6), (5, 0), (6, 3), (6, 4), (7, 11), (7, 12), (7, 13), (7, 17), (8, 3), (9, 7), (9, 8), (9, 9), (9, 10), (9, 11), (9, 12), (10, 1), (10, 2)]), [], [], [], 0, 0, [], [], [])
/-- DimShelf$Shelf.isAsked -/
abbrev ap_c166 : ak_Con := (166, [.inr (some ([59], false)), .inl (0, 1023)], some (.inl (0, 1)), ([], []), [], [], [], 0, 0, [], [], [])
/-- DimShelf$Shelf.brokenIn -/
abbrev ap_c167 : ak_Con := (167, [.inr (some ([59], false)), .inl (0, 1023)], some (.inl ((-2147483648), 2147483647)), ([], []), [], [], [], 0, 0, [], [], [])
/-- DimShelf$Reason.keep -/
abbrev ap_c168 : ak_Con := (168, [.inr (some ([57], false)), .inl ((-2147483648), 2147483647)], none, ([101], [(5, 3)]), [], [], [], 0, 0, [], [], [])
/-- java/lang/Integer.bitCount -/
abbrev ap_c170 : ak_Con := (170, [.inl ((-2147483648), 2147483647)], some (.inl (0, 63)), ([], []), [], [], [], 0, 0, [], [], [])
/-- DimShelf$Reason.hits -/
abbrev ap_c169a : ak_Con := (169, [.inr (some ([101], false)), .inl (0, 1024), .inl ((-2147483648), 2147483647), .inl ((-2147483648), 2147483647), .inl ((-21), (-1)), .inl (21, 21)], some (.inl (0, 1)), ([], []), [], [], [], 0, 0, [], [], [])
/-- DimShelf$Reason.hits -/
abbrev ap_c169b : ak_Con := (169, [.inr (some ([101], false)), .inl (0, 1024), .inl ((-2147483648), 2147483647), .inl ((-2147483648), 2147483647), .inl ((-20), 0), .inl (20, 20)], some (.inl (0, 1)), ([], []), [], [], [], 0, 0, [], [], [])
/-- DimShelf$Reason.hits -/
abbrev ap_c169c : ak_Con := (169, [.inr (some ([101], false)), .inl (0, 1024), .inl ((-2147483648), 2147483647), .inl ((-2147483648), 2147483647), .inl ((-19), 1), .inl (19, 19)], some (.inl (0, 1)), ([], []), [], [], [], 0, 0, [], [], [])
/-- DimShelf$Reason.hits -/
abbrev ap_c169d : ak_Con := (169, [.inr (some ([101], false)), .inl (0, 1024), .inl ((-2147483648), 2147483647), .inl ((-2147483648), 2147483647), .inl ((-18), 2), .inl (18, 18)], some (.inl (0, 1)), ([], []), [], [], [], 0, 0, [], [], [])
/-- DimShelf$Reason.hits -/
abbrev ap_c169e : ak_Con := (169, [.inr (some ([101], false)), .inl (0, 1024), .inl ((-2147483648), 2147483647), .inl ((-2147483648), 2147483647), .inl ((-17), 3), .inl (17, 17)], some (.inl (0, 1)), ([], []), [], [], [], 0, 0, [], [], [])
/-- DimShelf$Reason.hits -/
abbrev ap_c169f : ak_Con := (169, [.inr (some ([101], false)), .inl (0, 1024), .inl ((-2147483648), 2147483647), .inl ((-2147483648), 2147483647), .inl ((-16), 4), .inl (16, 16)], some (.inl (0, 1)), ([], []), [], [], [], 0, 0, [], [], [])
/-- DimShelf$Reason.hits -/
abbrev ap_c169g : ak_Con := (169, [.inr (some ([101], false)), .inl (0, 1024), .inl ((-2147483648), 2147483647), .inl ((-2147483648), 2147483647), .inl ((-15), 5), .inl (15, 15)], some (.inl (0, 1)), ([], []), [], [], [], 0, 0, [], [], [])
/-- DimShelf$Reason.hits -/
abbrev ap_c169h : ak_Con := (169, [.inr (some ([101], false)), .inl (0, 1024), .inl ((-2147483648), 2147483647), .inl ((-2147483648), 2147483647), .inl ((-14), 6), .inl (14, 14)], some (.inl (0, 1)), ([], []), [], [], [], 0, 0, [], [], [])
/-- DimShelf$Reason.hits -/
abbrev ap_c169i : ak_Con := (169, [.inr (some ([101], false)), .inl (0, 1024), .inl ((-2147483648), 2147483647), .inl ((-2147483648), 2147483647), .inl ((-13), 7), .inl (13, 13)], some (.inl (0, 1)), ([], []), [], [], [], 0, 0, [], [], [])
/-- DimShelf$Reason.hits -/
abbrev ap_c169j : ak_Con := (169, [.inr (some ([101], false)), .inl (0, 1024), .inl ((-2147483648), 2147483647), .inl ((-2147483648), 2147483647), .inl ((-12), 8), .inl (12, 12)], some (.inl (0, 1)), ([], []), [], [], [], 0, 0, [], [], [])
/-- DimShelf$Reason.hits -/
abbrev ap_c169k : ak_Con := (169, [.inr (some ([101], false)), .inl (0, 1024), .inl ((-2147483648), 2147483647), .inl ((-2147483648), 2147483647), .inl ((-11), 9), .inl (11, 11)], some (.inl (0, 1)), ([], []), [], [], [], 0, 0, [], [], [])
/-- DimShelf$Reason.hits -/
abbrev ap_c169l : ak_Con := (169, [.inr (some ([101], false)), .inl (0, 1024), .inl ((-2147483648), 2147483647), .inl ((-2147483648), 2147483647), .inl ((-10), 10), .inl (10, 10)], some (.inl (0, 1)), ([], []), [], [], [], 0, 0, [], [], [])
/-- DimShelf$Reason.hits -/
abbrev ap_c169m : ak_Con := (169, [.inr (some ([101], false)), .inl (0, 1024), .inl ((-2147483648), 2147483647), .inl ((-2147483648), 2147483647), .inl ((-9), 11), .inl (9, 9)], some (.inl (0, 1)), ([], []), [], [], [], 0, 0, [], [], [])
/-- DimShelf$Reason.hits -/
abbrev ap_c169n : ak_Con := (169, [.inr (some ([101], false)), .inl (0, 1024), .inl ((-2147483648), 2147483647), .inl ((-2147483648), 2147483647), .inl ((-8), 12), .inl (8, 8)], some (.inl (0, 1)), ([], []), [], [], [], 0, 0, [], [], [])
/-- DimShelf$Reason.hits -/
abbrev ap_c169o : ak_Con := (169, [.inr (some ([101], false)), .inl (0, 1024), .inl ((-2147483648), 2147483647), .inl ((-2147483648), 2147483647), .inl ((-7), 13), .inl (7, 7)], some (.inl (0, 1)), ([], []), [], [], [], 0, 0, [], [], [])
/-- DimShelf$Reason.hits -/
abbrev ap_c169p : ak_Con := (169, [.inr (some ([101], false)), .inl (0, 1024), .inl ((-2147483648), 2147483647), .inl ((-2147483648), 2147483647), .inl ((-6), 14), .inl (6, 6)], some (.inl (0, 1)), ([], []), [], [], [], 0, 0, [], [], [])
/-- DimShelf$Reason.hits -/
abbrev ap_c169q : ak_Con := (169, [.inr (some ([101], false)), .inl (0, 1024), .inl ((-2147483648), 2147483647), .inl ((-2147483648), 2147483647), .inl ((-5), 15), .inl (5, 5)], some (.inl (0, 1)), ([], []), [], [], [], 0, 0, [], [], [])
/-- DimShelf$Reason.hits -/
abbrev ap_c169r : ak_Con := (169, [.inr (some ([101], false)), .inl (0, 1024), .inl ((-2147483648), 2147483647), .inl ((-2147483648), 2147483647), .inl ((-4), 16), .inl (4, 4)], some (.inl (0, 1)), ([], []), [], [], [], 0, 0, [], [], [])
/-- DimShelf$Reason.hits -/
abbrev ap_c169s : ak_Con := (169, [.inr (some ([101], false)), .inl (0, 1024), .inl ((-2147483648), 2147483647), .inl ((-2147483648), 2147483647), .inl ((-3), 17), .inl (3, 3)], some (.inl (0, 1)), ([], []), [], [], [], 0, 0, [], [], [])
/-- DimShelf$Reason.hits -/
abbrev ap_c169t : ak_Con := (169, [.inr (some ([101], false)), .inl (0, 1024), .inl ((-2147483648), 2147483647), .inl ((-2147483648), 2147483647), .inl ((-2), 18), .inl (2, 2)], some (.inl (0, 1)), ([], []), [], [], [], 0, 0, [], [], [])
/-- DimShelf$Reason.hits -/
abbrev ap_c169u : ak_Con := (169, [.inr (some ([101], false)), .inl (0, 1024), .inl ((-2147483648), 2147483647), .inl ((-2147483648), 2147483647), .inl ((-1), 19), .inl (1, 1)], some (.inl (0, 1)), ([], []), [], [], [], 0, 0, [], [], [])
/-- DimShelf$Reason.hits -/
abbrev ap_c169v : ak_Con := (169, [.inr (some ([101], false)), .inl (0, 1024), .inl ((-2147483648), 2147483647), .inl ((-2147483648), 2147483647), .inl (0, 19), .inl (0, 0)], some (.inl (0, 1)), ([], []), [], [], [], 0, 0, [], [], [])
/-- DimShelf$Reason.choose -/
abbrev ap_c171 : ak_Con := (171, [.inr (some ([57], false)), .inl ((-2147483648), 2147483647), .inl (0, 20)], none, ([], [(5, 1)]), [], [], [], 0, 0, [], [], [])
/-- DimShelf$Reason.find -/
abbrev ap_c165 : ak_Con := (165, [.inr (some ([57], false)), .inr (some ([59], false))], none, ([101], [(5, 1), (5, 3)]), [], [], [], 0, 0, [], [], [])
/-- DimShelf$Reason.part -/
abbrev ap_c164 : ak_Con := (164, [.inr (some ([57], false)), .inr (some ([59], false)), .inl ((-2147483648), 2147483647)], some (.inl ((-1), 19)), ([101], [(5, 0), (5, 1), (5, 3)]), [], [], [], 0, 0, [], [], [])
/-- DimShelf.why -/
abbrev ap_c163 : ak_Con := (163, [.inr (some ([62], false)), .inl ((-2147483648), 2147483647)], some (.inl ((-1), 19)), ([101], [(5, 0), (5, 1), (5, 3)]), [], [], [], 0, 0, [], [], [])
/-- DimShelf$Shelf.valueIn -/
abbrev ap_c124 : ak_Con := (124, [.inr (some ([59], false)), .inl (0, 1023), .inl ((-2147483648), 2147483647)], some (.inl ((-2147483648), 2147483647)), ([], []), [], [], [], 0, 0, [], [], [])
/-- DimShelf.value -/
abbrev ap_c172 : ak_Con := (172, [.inr (some ([62], false)), .inl ((-2147483648), 2147483647), .inl ((-2147483648), 2147483647)], some (.inl ((-2147483648), 2147483647)), ([], []), [], [], [], 0, 0, [], [], [])
/-- DimShelf$Rows.has -/
abbrev ap_c108 : ak_Con := (108, [.inr (some ([58], false)), .inl (0, 19999999), .inl ((-1), 1023)], some (.inl (0, 1)), ([], []), [], [], [], 0, 0, [], [], [])
/-- DimShelf$Rows.cellIn -/
abbrev ap_c114a : ak_Con := (114, [.inr (some ([58], false)), .inr (some ([59], false)), .inl ((-2147483648), (-1)), .inl ((-2147483648), (-1)), .inl ((-1), 1023)], some (.inl (0, 0)), ([], []), [], [], [], 0, 0, [], [], [])
/-- DimShelf$Rows.cellIn -/
abbrev ap_c114b : ak_Con := (114, [.inr (some ([58], false)), .inr (some ([59], false)), .inl ((-2147483648), (-1)), .inl (0, 5), .inl ((-1), 1023)], some (.inl (0, 0)), ([], []), [], [], [], 0, 0, [], [], [])
/-- DimShelf$Rows.cellIn -/
abbrev ap_c114c : ak_Con := (114, [.inr (some ([58], false)), .inr (some ([59], false)), .inl ((-2147483648), (-1)), .inl (6, 2147483647), .inl ((-1), 1023)], some (.inl (0, 0)), ([], []), [], [], [], 0, 0, [], [], [])
/-- DimShelf$Rows.cellIn -/
abbrev ap_c114d : ak_Con := (114, [.inr (some ([58], false)), .inr (some ([59], false)), .inl (0, 29), .inl ((-2147483648), (-1)), .inl ((-1), 1023)], some (.inl (0, 0)), ([], []), [], [], [], 0, 0, [], [], [])
/-- DimShelf$Rows.cellIn -/
abbrev ap_c114e : ak_Con := (114, [.inr (some ([58], false)), .inr (some ([59], false)), .inl (0, 29), .inl (0, 5), .inl ((-1), 1023)], some (.inl ((-2147483648), 2147483647)), ([], []), [], [], [], 0, 0, [], [], [])
/-- DimShelf$Rows.cellIn -/
abbrev ap_c114f : ak_Con := (114, [.inr (some ([58], false)), .inr (some ([59], false)), .inl (0, 29), .inl (6, 2147483647), .inl ((-1), 1023)], some (.inl (0, 0)), ([], []), [], [], [], 0, 0, [], [], [])
/-- DimShelf$Rows.cellIn -/
abbrev ap_c114g : ak_Con := (114, [.inr (some ([58], false)), .inr (some ([59], false)), .inl (30, 2147483647), .inl ((-2147483648), (-1)), .inl ((-1), 1023)], some (.inl (0, 0)), ([], []), [], [], [], 0, 0, [], [], [])
/-- DimShelf$Rows.cellIn -/
abbrev ap_c114h : ak_Con := (114, [.inr (some ([58], false)), .inr (some ([59], false)), .inl (30, 2147483647), .inl (0, 5), .inl ((-1), 1023)], some (.inl (0, 0)), ([], []), [], [], [], 0, 0, [], [], [])
/-- DimShelf$Rows.cellIn -/
abbrev ap_c114i : ak_Con := (114, [.inr (some ([58], false)), .inr (some ([59], false)), .inl (30, 2147483647), .inl (6, 2147483647), .inl ((-1), 1023)], some (.inl (0, 0)), ([], []), [], [], [], 0, 0, [], [], [])
/-- DimShelf$Rows.cellIn -/
abbrev ap_c114j : ak_Con := (114, [.inr (some ([58], false)), .inr (some ([59], false)), .inl ((-2147483648), 2147483647), .inl ((-2147483648), 2147483647), .inl ((-1), 1023)], some (.inl ((-2147483648), 2147483647)), ([], []), [], [], [], 0, 0, [], [], [])
/-- DimShelf$Rows.against -/
abbrev ap_c130 : ak_Con := (130, [.inr (some ([58], false)), .inr (some ([59], false)), .inl ((-2147483648), 2147483647), .inl ((-1), 1023), .inr (some ([58], false)), .inl ((-2147483648), 2147483647), .inl ((-1), 1023)], some (.inl ((-1), 1)), ([], []), [], [], [], 0, 0, [], [], [])
/-- DimShelf$Rows.lineUp -/
abbrev ap_c129 : ak_Con := (129, [.inr (some ([58], false)), .inr (some ([59], false)), .inl ((-1), 1023), .inr (some ([90], false))], some (.inl (0, 30)), ([90], []), [], [], [], 0, 0, [], [], [])
/-- DimShelf$Listing.collect -/
abbrev ap_c175 : ak_Con := (175, [.inr (some ([54], false)), .inr (some ([59], false)), .inr (some ([58], false))], none, ([90, 98, 99], [(2, 1), (2, 2), (2, 3), (2, 5), (2, 6), (2, 8)]), [], [], [], 0, 0, [], [], [])
/-- DimShelf$Listing.rowOf -/
abbrev ap_c182 : ak_Con := (182, [.inl ((-2147483648), 2147483647)], some (.inl (0, 31)), ([], []), [], [], [], 0, 0, [], [], [])
/-- DimShelf$Listing.worldOf -/
abbrev ap_c183 : ak_Con := (183, [.inl ((-2147483648), 2147483647)], some (.inl (0, 1023)), ([], []), [], [], [], 0, 0, [], [], [])
/-- DimShelf$Listing.worldsOf -/
abbrev ap_c184 : ak_Con := (184, [.inl ((-2147483648), 2147483647)], some (.inl ((-100000), 65535)), ([], []), [], [], [], 0, 0, [], [], [])
/-- DimShelf$Listing.findSure -/
abbrev ap_c185 : ak_Con := (185, [.inr (some ([54], false)), .inl (0, 1024)], none, ([100], [(2, 4)]), [], [], [], 0, 0, [], [], [])
/-- DimShelf$Shelf.rowsOf -/
abbrev ap_c63a : ak_Con := (63, [.inr (some ([59], false)), .inl ((-2147483648), (-1))], some (.inr (some ([], true))), ([], []), [], [], [], 0, 0, [], [], [])
/-- DimShelf$Shelf.rowsOf -/
abbrev ap_c63b : ak_Con := (63, [.inr (some ([59], false)), .inl (0, 2147483647)], some (.inr (some ([58], true))), ([], []), [], [], [], 0, 0, [], [], [])
/-- DimShelf$Shelf.rowsOf -/
abbrev ap_c63c : ak_Con := (63, [.inr (some ([59], false)), .inl ((-2147483648), 2147483647)], some (.inr (some ([58], true))), ([], []), [], [], [], 0, 0, [], [], [])
/-- DimShelf$Listing.gather -/
abbrev ap_c174 : ak_Con := (174, [.inr (some ([54], false)), .inr (some ([59], false)), .inl ((-2147483648), 2147483647)], none, ([90, 98, 99, 100], [(2, 0), (2, 1), (2, 2), (2, 3), (2, 4), (2, 5), (2, 6), (2, 8)]), [], [], [], 0, 0, [], [], [])
/-- DimShelf$Shelf.isAnswer -/
abbrev ap_c95 : ak_Con := (95, [.inr (some ([59], false)), .inl ((-2147483648), 2147483647)], some (.inl (0, 1)), ([], []), [], [], [], 0, 0, [], [], [])
/-- DimShelf.table -/
abbrev ap_c173 : ak_Con := (173, [.inr (some ([62], false)), .inl ((-2147483648), 2147483647), .inl ((-2147483648), 2147483647)], some (.inl ((-2147483648), 2147483647)), ([90, 98, 99, 100], [(2, 0), (2, 1), (2, 2), (2, 3), (2, 4), (2, 5), (2, 6), (2, 8)]), [], [], [], 0, 0, [], [], [])
/-- DimShelf$Rows.isOpen -/
abbrev ap_c103 : ak_Con := (103, [.inr (some ([58], false)), .inl (0, 19999999), .inl ((-2147483648), 2147483647)], some (.inl (0, 1)), ([], []), [], [], [], 0, 0, [], [], [])
/-- DimShelf$Rows.termAt -/
abbrev ap_c104 : ak_Con := (104, [.inr (some ([58], false)), .inl (0, 19999999), .inl ((-2147483648), 2147483647)], some (.inl ((-2147483648), 2147483647)), ([], []), [], [], [], 0, 0, [], [], [])
/-- DimShelf.term -/
abbrev ap_c186 : ak_Con := (186, [.inr (some ([62], false)), .inl ((-2147483648), 2147483647), .inl ((-2147483648), 2147483647), .inl ((-2147483648), 2147483647), .inl ((-2147483648), 2147483647)], some (.inl ((-2147483648), 2147483647)), ([], []), [], [], [], 0, 0, [], [], [])
/-- DimShelf.many -/
abbrev ap_c187 : ak_Con := (187, [.inr (some ([62], false)), .inl ((-2147483648), 2147483647), .inl ((-2147483648), 2147483647)], some (.inl ((-2147483648), 2147483647)), ([], []), [], [], [], 0, 0, [], [], [])
/-- DimShelf.holds -/
abbrev ap_c188 : ak_Con := (188, [.inr (some ([62], false)), .inl ((-2147483648), 2147483647), .inl ((-2147483648), 2147483647), .inl ((-2147483648), 2147483647)], some (.inl (0, 1)), ([], []), [], [], [], 0, 0, [], [], [])
/-- DimShelf.size -/
abbrev ap_c189 : ak_Con := (189, [.inr (some ([62], false)), .inl ((-2147483648), 2147483647), .inl ((-2147483648), 2147483647)], some (.inl ((-1), 30)), ([90], []), [], [], [], 0, 0, [], [], [])
/-- DimShelf.cell -/
abbrev ap_c190 : ak_Con := (190, [.inr (some ([62], false)), .inl ((-2147483648), 2147483647), .inl ((-2147483648), 2147483647), .inl ((-2147483648), 2147483647), .inl ((-2147483648), 2147483647)], some (.inl ((-2147483648), 2147483647)), ([90], []), [], [], [], 0, 0, [], [], [])
/-- DimShelf$Listing.sureRef -/
abbrev ap_c192 : ak_Con := (192, [.inr (some ([54], false)), .inl ((-2147483648), 2147483647)], some (.inl ((-2147483648), 2147483647)), ([], []), [], [], [], 0, 0, [], [], [])
/-- DimShelf.listedCell -/
abbrev ap_c193 : ak_Con := (193, [.inr (some ([62], false)), .inr (some ([58], true)), .inl ((-2147483648), 2147483647), .inl ((-2147483648), 2147483647)], some (.inl ((-2147483648), 2147483647)), ([], []), [], [], [], 0, 0, [], [], [])
/-- DimShelf.sure -/
abbrev ap_c191 : ak_Con := (191, [.inr (some ([62], false)), .inl ((-2147483648), 2147483647), .inl ((-2147483648), 2147483647), .inl ((-2147483648), 2147483647)], some (.inl ((-2147483648), 2147483647)), ([90, 98, 99, 100], [(2, 0), (2, 1), (2, 2), (2, 3), (2, 4), (2, 5), (2, 6), (2, 8)]), [], [], [], 0, 0, [], [], [])
/-- DimShelf.maybe -/
abbrev ap_c194 : ak_Con := (194, [.inr (some ([62], false)), .inl ((-2147483648), 2147483647), .inl ((-2147483648), 2147483647), .inl ((-2147483648), 2147483647)], some (.inl ((-2147483648), 2147483647)), ([90, 98, 99, 100], [(2, 0), (2, 1), (2, 2), (2, 3), (2, 4), (2, 5), (2, 6), (2, 8)]), [], [], [], 0, 0, [], [], [])
/-- DimShelf.often -/
abbrev ap_c195 : ak_Con := (195, [.inr (some ([62], false)), .inl ((-2147483648), 2147483647), .inl ((-2147483648), 2147483647)], some (.inl ((-100000), 65535)), ([90, 98, 99, 100], [(2, 0), (2, 1), (2, 2), (2, 3), (2, 4), (2, 5), (2, 6), (2, 8)]), [], [], [], 0, 0, [], [], [])
/-- DimShelf.agree -/
abbrev ap_c197 : ak_Con := (197, [.inr (some ([62], false)), .inr (some ([58], false)), .inr (some ([58], false)), .inl ((-1), 1023)], some (.inl (0, 1)), ([90], []), [], [], [], 0, 0, [], [], [])
/-- DimShelf.same -/
abbrev ap_c196 : ak_Con := (196, [.inr (some ([62], false)), .inl ((-2147483648), 2147483647), .inl ((-2147483648), 2147483647)], some (.inl ((-2), 1023)), ([90], []), [], [], [], 0, 0, [], [], [])
/-- DimShelf.count -/
abbrev ap_c198 : ak_Con := (198, [.inr (some ([62], false)), .inl ((-2147483648), 2147483647)], some (.inl ((-2147483648), 2147483647)), ([], []), [], [], [], 0, 0, [], [], [])
/-- DimShelf$Worker.judge (by hand) -/
abbrev ap_c156 : ak_Con := (156, [.inr (some ([61], false)), .inr (some ([59], false))], none, ([97], [(9, 7), (9, 8), (9, 9), (9, 10), (9, 11), (9, 12)]), [], [], [], 0, 0, [], [], [])
/-- DimShelf.understand (by hand) -/
abbrev ap_c20a : ak_Con := (20, [.inr (some ([62], false)), .inl (138, 138), .inr (some ([59], false))], none, ([65, 66, 67, 72, 73, 74, 75, 76, 77, 78, 79, 80, 81, 82, 83, 84, 85, 86, 87, 88], [(0, 2), (0, 5), (0, 7), (0, 8), (3, 5), (3, 6), (3, 7), (3, 8), (3, 9), (3, 10), (3, 11), (3, 12), (3, 13), (3, 14), (3, 15), (4, 4), (4, 5), (4, 6), (6, 3), (6, 4), (7, 11), (7, 12), (7, 13), (8, 3), (10, 1)]), [], [], [], 0, 0, [], [], [])
/-- DimShelf$Tokens.scan (by hand) -/
abbrev ap_c21 : ak_Con := (21, [.inr (some ([60], false)), .inr (some ([64], false)), .inl (0, 4000)], none, ([76, 77, 78], [(8, 3)]), [], [], [], 0, 0, [], [], [])
/-- DimShelf$Tokens.scanOne (by hand) -/
abbrev ap_c23 : ak_Con := (23, [.inr (some ([60], false)), .inr (some ([64], false)), .inl (1, 4000), .inl (0, 0)], some (.inl ((-1), 4000)), ([76, 77, 78], [(8, 3)]), [], [], [], 0, 0, [], [], [])
/-- DimShelf$Tokens.scanName (by hand) -/
abbrev ap_c25 : ak_Con := (25, [.inr (some ([60], false)), .inr (some ([64], false)), .inl (1, 4000), .inl (0, 0)], some (.inl ((-1), 4000)), ([76, 77, 78], [(8, 3)]), [], [], [], 0, 0, [], [], [])
/-- DimShelf$Tokens.add (by hand) -/
abbrev ap_c27 : ak_Con := (27, [.inr (some ([60], false)), .inl ((-2147483648), 2147483647), .inl ((-2147483648), 2147483647), .inr none], none, ([76, 77, 78], [(8, 3)]), [], [], [], 0, 0, [], [], [])
/-- DimShelf$Tokens.scanNumber (by hand) -/
abbrev ap_c29 : ak_Con := (29, [.inr (some ([60], false)), .inr (some ([64], false)), .inl (1, 4000), .inl (0, 0)], some (.inl ((-1), 4000)), ([76, 77, 78], [(8, 3)]), [], [], [], 0, 0, [], [], [])
/-- DimShelf$Plan.empty (by hand) -/
abbrev ap_c31 : ak_Con := (31, [.inr (some ([56], false))], none, ([], [(4, 4), (4, 5), (4, 6)]), [], [], [], 0, 0, [], [], [])
/-- DimShelf$Parser.parse (by hand) -/
abbrev ap_c32 : ak_Con := (32, [.inr (some ([55], false)), .inl (128, 138)], none, ([79, 80, 81, 82, 83, 84, 85], [(3, 5), (3, 6), (3, 7), (3, 8), (3, 9), (3, 10), (3, 11), (3, 12), (3, 13), (3, 14), (3, 15), (4, 4), (4, 5), (4, 6)]), [], [], [], 0, 0, [], [], [])
/-- DimShelf$Parser.push (by hand) -/
abbrev ap_c33 : ak_Con := (33, [.inr (some ([55], false)), .inl (1, 179)], none, ([83], [(3, 5)]), [], [], [], 0, 0, [], [], [])
/-- DimShelf$Parser.note (by hand) -/
abbrev ap_c34 : ak_Con := (34, [.inr (some ([55], false)), .inl (170, 255), .inl ((-8388608), 8388607)], none, ([79, 80, 81, 82, 84, 85], [(3, 8), (3, 9), (3, 10), (3, 11), (3, 12), (3, 13), (3, 14), (3, 15), (4, 4), (4, 5), (4, 6)]), [], [], [], 0, 0, [], [], [])
/-- DimShelf$Parser.keep -/
abbrev ap_c39 : ak_Con := (39, [.inr (some ([55], false)), .inl (170, 255), .inl ((-8388608), 8388607)], none, ([79, 80, 81, 82], [(3, 15), (4, 4)]), [], [], [], 0, 0, [], [], [])
/-- DimShelf$Plan.fail (by hand) -/
abbrev ap_c44 : ak_Con := (44, [.inr (some ([56], false)), .inl (1, 7), .inl ((-2147483648), 2147483647)], none, ([], [(4, 5), (4, 6)]), [], [], [], 0, 0, [], [], [])
/-- DimShelf$Parser.expand (by hand) -/
abbrev ap_c45 : ak_Con := (45, [.inr (some ([55], false)), .inl (130, 169)], none, ([], [(4, 5), (4, 6)]), [], [], [], 0, 0, [], [], [])
/-- DimShelf$Parser.take (by hand) -/
abbrev ap_c55 : ak_Con := (55, [.inr (some ([55], false)), .inl (0, 129)], none, ([], [(3, 6), (3, 7), (4, 5), (4, 6)]), [], [], [], 0, 0, [], [], [])
/-- DimShelf$Checker.check (by hand) -/
abbrev ap_c56 : ak_Con := (56, [.inr (some ([52], false)), .inr (some ([59], false))], none, ([65, 66, 67, 72, 73, 74, 75, 82, 86, 87, 88], [(0, 2), (0, 5), (0, 7), (0, 8), (4, 5), (4, 6), (6, 3), (6, 4), (7, 11), (7, 12), (7, 13)]), [], [], [], 0, 0, [], [], [])
/-- DimShelf$Listing.makeRoom (by hand) -/
abbrev ap_c176 : ak_Con := (176, [.inr (some ([54], false)), .inl ((-100), 30750)], none, ([98], [(2, 5), (2, 6)]), [], [], [], 0, 0, [], [], [])
/-- java/util/Arrays.copyOf (by hand) -/
abbrev ap_c177 : ak_Con := (177, [.inr (some ([98], false)), .inl (65, 65536)], some (.inr (some ([98], false))), ([], []), [], [], [], 0, 0, [], [], [])
/-- DimShelf$Listing.put (by hand) -/
abbrev ap_c178 : ak_Con := (178, [.inr (some ([98], false)), .inl ((-2147483648), 2147483647), .inl ((-2147483648), 2147483647)], none, ([98], []), [], [], [], 0, 0, [], [], [])
/-- DimShelf$Listing.mergeRuns (by hand) -/
abbrev ap_c179 : ak_Con := (179, [.inr (some ([54], false)), .inr (some ([59], false)), .inr (some ([58], false))], none, ([98, 99], [(2, 3), (2, 5), (2, 6), (2, 8)]), [], [], [], 0, 0, [], [], [])
/-- DimShelf$Listing.mergeTwo (by hand) -/
abbrev ap_c180 : ak_Con := (180, [.inr (some ([54], false)), .inr (some ([59], false)), .inr (some ([58], false)), .inl ((-2147483648), 2147483647), .inl ((-2147483648), 2147483647), .inl ((-2147483648), 2147483647), .inl ((-2147483648), 2147483647)], some (.inl ((-2147483648), 2147483647)), ([98], []), [], [], [], 0, 0, [], [], [])
/-- DimShelf$Listing.ref (by hand) -/
abbrev ap_c181 : ak_Con := (181, [.inr (some ([54], false)), .inl ((-2147483648), 2147483647)], some (.inl ((-2147483648), 2147483647)), ([], []), [], [], [], 0, 0, [], [], [])
/-- DimShelf.understand (by hand) -/
abbrev ap_c20b : ak_Con := (20, [.inr (some ([62], false)), .inl (130, 130), .inr (some ([59], false))], none, ([65, 66, 67, 72, 73, 74, 75, 76, 77, 78, 79, 80, 81, 82, 83, 84, 85, 86, 87, 88], [(0, 2), (0, 5), (0, 7), (0, 8), (3, 5), (3, 6), (3, 7), (3, 8), (3, 9), (3, 10), (3, 11), (3, 12), (3, 13), (3, 14), (3, 15), (4, 4), (4, 5), (4, 6), (6, 3), (6, 4), (7, 11), (7, 12), (7, 13), (8, 3), (10, 1)]), [], [], [], 0, 0, [], [], [])
/-- DimShelf$Plan.noteAt -/
abbrev ap_c57 : ak_Con := (57, [.inr (some ([56], false)), .inl (0, 2499)], some (.inl ((-2147483648), 2147483647)), ([], []), [], [], [], 0, 0, [], [], [])
/-- DimShelf$Plan.argAt -/
abbrev ap_c40 : ak_Con := (40, [.inr (some ([56], false)), .inl ((-2147483648), 2147483647)], some (.inl ((-2147483648), 2147483647)), ([], []), [], [], [], 0, 0, [], [], [])
/-- DimShelf$Plan.nearAt -/
abbrev ap_c61 : ak_Con := (61, [.inr (some ([56], false)), .inl (0, 2499)], some (.inl (0, 1000000)), ([], []), [], [], [], 0, 0, [], [], [])
/-- DimShelf$Checker.wordNear -/
abbrev ap_c60 : ak_Con := (60, [.inr (some ([52], false)), .inl (0, 2499)], some (.inr none), ([], []), [], [], [], 0, 0, [], [], [])
/-- DimShelf$Shelf.tableNamed -/
abbrev ap_c62 : ak_Con := (62, [.inr (some ([59], false)), .inr none], some (.inl ((-1), 9)), ([], []), [], [], [], 0, 0, [], [], [])
/-- DimShelf$Checker.failNear -/
abbrev ap_c64 : ak_Con := (64, [.inr (some ([52], false)), .inl (3, 5), .inl (0, 2499)], none, ([], [(4, 5), (4, 6)]), [], [], [], 0, 0, [], [], [])
/-- DimShelf$Checker.setWidth -/
abbrev ap_c65 : ak_Con := (65, [.inr (some ([52], false)), .inl ((-3001), 2999), .inl (0, 0)], none, ([87], []), [], [], [], 0, 0, [], [], [])
/-- DimShelf$Shelf.columnName -/
abbrev ap_c66 : ak_Con := (66, [.inr (some ([59], false)), .inl ((-1), 9), .inl (0, 19999999)], some (.inr none), ([], []), [], [], [], 0, 0, [], [], [])
/-- DimShelf$Checker.widthAt -/
abbrev ap_c69 : ak_Con := (69, [.inr (some ([52], false)), .inl ((-3001), 3980)], some (.inl (0, 6)), ([], []), [], [], [], 0, 0, [], [], [])
/-- DimShelf$Checker.columnAt -/
abbrev ap_c70 : ak_Con := (70, [.inr (some ([52], false)), .inl ((-100000), 3000), .inl (0, 5)], some (.inr none), ([], []), [], [], [], 0, 0, [], [], [])
/-- DimShelf$Checker.isSameWidth -/
abbrev ap_c68 : ak_Con := (68, [.inr (some ([52], false)), .inl ((-3001), 2997), .inl ((-3000), 2998)], some (.inl (0, 1)), ([], []), [], [], [], 0, 0, [], [], [])
/-- DimShelf$Plan.leadAt -/
abbrev ap_c72 : ak_Con := (72, [.inr (some ([56], false)), .inl (0, 2499)], some (.inl ((-2147483648), 2147483647)), ([], []), [], [], [], 0, 0, [], [], [])
/-- DimShelf$Checker.failLead -/
abbrev ap_c71 : ak_Con := (71, [.inr (some ([52], false)), .inl (5, 5), .inl (0, 2499)], none, ([], [(4, 5), (4, 6)]), [], [], [], 0, 0, [], [], [])
/-- DimShelf$Checker.columnNamed -/
abbrev ap_c74 : ak_Con := (74, [.inr (some ([52], false)), .inl ((-3001), 2999), .inr none], some (.inl ((-1), 5)), ([], []), [], [], [], 0, 0, [], [], [])
/-- DimShelf$Checker.isPicked -/
abbrev ap_c76 : ak_Con := (76, [.inr (some ([52], false)), .inr none], some (.inl (0, 1)), ([], []), [], [], [], 0, 0, [], [], [])
/-- DimShelf$Checker.usePicks -/
abbrev ap_c77 : ak_Con := (77, [.inr (some ([52], false))], none, ([86, 87], []), [], [], [], 0, 0, [], [], [])
/-- DimShelf$Checker.setColumn -/
abbrev ap_c79 : ak_Con := (79, [.inr (some ([52], false)), .inl ((-100000), 3980), .inl ((-2147483648), 2147483647), .inr none], none, ([86], []), [], [], [], 0, 0, [], [], [])
/-- DimShelf$Checker.group -/
abbrev ap_c80 : ak_Con := (80, [.inr (some ([52], false)), .inl (0, 2499)], none, ([86, 87], [(4, 5), (4, 6)]), [], [], [], 0, 0, [], [], [])
/-- DimShelf$Checker.intNear -/
abbrev ap_c82 : ak_Con := (82, [.inr (some ([52], false)), .inl (0, 2499)], some (.inl ((-2139095039), 2139095039)), ([], []), [], [], [], 0, 0, [], [], [])
/-- DimShelf$Shelf.unknownNamed -/
abbrev ap_c84 : ak_Con := (84, [.inr (some ([59], false)), .inr none], some (.inl ((-1), 7)), ([], []), [], [], [], 0, 0, [], [], [])
/-- DimShelf$Shelf.startUnknown -/
abbrev ap_c86 : ak_Con := (86, [.inr (some ([59], false)), .inr none], none, ([65, 66], []), [], [], [], 0, 0, [], [], [])
/-- DimShelf$Shelf.sizeOf -/
abbrev ap_c4 : ak_Con := (4, [.inr (some ([59], false)), .inl (0, 8)], some (.inl (0, 64)), ([], []), [], [], [], 0, 0, [], [], [])
/-- DimShelf$Shelf.list -/
abbrev ap_c87 : ak_Con := (87, [.inr (some ([59], false)), .inl ((-2147483648), 2139095039)], some (.inl (0, 1)), ([66, 67], []), [], [], [], 0, 0, [], [], [])
/-- DimShelf$Shelf.firstListed -/
abbrev ap_c89 : ak_Con := (89, [.inr (some ([59], false))], some (.inl ((-2147483648), 2147483647)), ([], []), [], [], [], 0, 0, [], [], [])
/-- DimShelf$Checker.checkLast -/
abbrev ap_c88 : ak_Con := (88, [.inr (some ([52], false)), .inl (0, 2499)], none, ([66, 67], [(4, 5), (4, 6)]), [], [], [], 0, 0, [], [], [])
/-- DimShelf$Shelf.endUnknown -/
abbrev ap_c90 : ak_Con := (90, [.inr (some ([59], false))], some (.inl (0, 1)), ([], [(7, 11), (7, 13)]), [], [], [], 0, 0, [], [], [])
/-- DimShelf$Checker.isNewTable -/
abbrev ap_c91 : ak_Con := (91, [.inr (some ([52], false)), .inl (0, 2499)], some (.inl (0, 1)), ([], [(4, 5), (4, 6)]), [], [], [], 0, 0, [], [], [])
/-- DimShelf$Checker.checkQuery (by hand) -/
abbrev ap_c58 : ak_Con := (58, [.inr (some ([52], false)), .inl (210, 2147483647), .inl (0, 2499)], none, ([82, 86, 87, 88], [(0, 5), (0, 7), (0, 8), (4, 5), (4, 6)]), [(5, ((-2999), 2999))], [], [], 0, 0, [], [], [])
/-- DimShelf$Plan.setArg (by hand) -/
abbrev ap_c41 : ak_Con := (41, [.inr (some ([56], false)), .inl ((-2147483648), 2147483647), .inl ((-2147483648), 2147483647)], none, ([82], []), [], [], [], 0, 0, [], [], [])
/-- DimShelf$Checker.load (by hand) -/
abbrev ap_c59 : ak_Con := (59, [.inr (some ([52], false)), .inl (0, 2499)], none, ([82, 86, 87], [(0, 5), (4, 5), (4, 6)]), [(5, ((-2999), 2999))], [], [], 0, 0, [], [], [])
/-- DimShelf$Checker.addColumn (by hand) -/
abbrev ap_c67 : ak_Con := (67, [.inr (some ([52], false)), .inl ((-2147483648), 2147483647), .inr none], none, ([86, 87], []), [], [], [], 0, 0, [], [], [])
/-- DimShelf$Checker.join (by hand) -/
abbrev ap_c73 : ak_Con := (73, [.inr (some ([52], false)), .inl (0, 2499)], none, ([82, 86, 87], [(4, 5), (4, 6)]), [], [], [], 0, 0, [], [], [])
/-- DimShelf$Checker.pick (by hand) -/
abbrev ap_c75 : ak_Con := (75, [.inr (some ([52], false)), .inl (0, 2499)], none, ([82, 88], [(0, 7), (4, 5), (4, 6)]), [], [], [], 0, 0, [], [], [])
/-- DimShelf$Checker.keepNamed (by hand) -/
abbrev ap_c78 : ak_Con := (78, [.inr (some ([52], false)), .inl (0, 2499), .inl ((-1), 7)], none, ([82], [(4, 5), (4, 6)]), [], [], [], 0, 0, [], [], [])
/-- DimShelf$Checker.checkTerm (by hand) -/
abbrev ap_c81 : ak_Con := (81, [.inr (some ([52], false)), .inl (200, 209), .inl (0, 2499)], none, ([82], [(4, 5), (4, 6)]), [], [], [], 0, 0, [], [], [])
/-- DimShelf$Tokens.intAt (by hand) -/
abbrev ap_c83 : ak_Con := (83, [.inr (some ([60], false)), .inl ((-1000), 1000000)], some (.inl ((-2139095039), 2139095039)), ([], []), [], [], [], 0, 0, [], [], [])
/-- DimShelf$Checker.checkTold (by hand) -/
abbrev ap_c85 : ak_Con := (85, [.inr (some ([52], false)), .inl ((-2147483648), 199), .inl (0, 2499)], none, ([65, 66, 67, 72, 73, 74, 75, 82], [(0, 5), (4, 5), (4, 6), (6, 3), (6, 4), (7, 11), (7, 12), (7, 13)]), [(5, ((-2999), 2999))], [], [], 0, 0, [], [], [])
/-- DimShelf$Shelf.addTable (by hand) -/
abbrev ap_c92 : ak_Con := (92, [.inr (some ([59], false)), .inr none, .inl (0, 1)], some (.inl ((-1), 9)), ([72, 73, 75], [(6, 3), (6, 4), (7, 12)]), [], [], [], 0, 0, [], [], [])
/-- DimShelf$Shelf.addColumn (by hand) -/
abbrev ap_c93 : ak_Con := (93, [.inr (some ([59], false)), .inr none], some (.inl (0, 1)), ([74], [(6, 3)]), [], [], [], 0, 0, [], [], [])
/-- DimShelf$Checker.checkRow (by hand) -/
abbrev ap_c94 : ak_Con := (94, [.inr (some ([52], false)), .inl (0, 2499)], none, ([82], [(4, 5), (4, 6)]), [], [], [], 0, 0, [], [], [])
/-- DimShelf$Checker.endAnswer (by hand) -/
abbrev ap_c96 : ak_Con := (96, [.inr (some ([52], false)), .inl (0, 2499)], none, ([72, 73, 74, 75, 82], [(0, 5), (6, 3), (6, 4), (7, 12)]), [(5, ((-2999), 2999))], [], [], 0, 0, [], [], [])
/-- DimShelf$Worker.setSide -/
abbrev ap_c141 : ak_Con := (141, [.inr (some ([61], false)), .inl (0, 2), .inl ((-2147483648), 2147483647)], none, ([], [(9, 8), (9, 9), (9, 10), (9, 11)]), [], [], [], 0, 0, [], [], [])
/-- DimShelf$Worker.sideIn -/
abbrev ap_c123 : ak_Con := (123, [.inr (some ([61], false)), .inl ((-2147483648), 2147483647), .inl ((-2147483648), 2147483647), .inr (some ([58], false)), .inl (0, 19999999), .inl (0, 1023)], some (.inl ((-2147483648), 2147483647)), ([], []), [], [], [], 0, 0, [], [], [])
/-- DimShelf$Worker.compares -/
abbrev ap_c122 : ak_Con := (122, [.inr (some ([61], false)), .inr (some ([58], false)), .inl (0, 19999999), .inl (0, 1023)], some (.inl (0, 1)), ([], []), [], [], [], 0, 0, [], [], [])
/-- DimShelf$Worker.judged -/
abbrev ap_c142 : ak_Con := (142, [.inr (some ([61], false)), .inl ((-2147483648), 2147483647), .inl ((-2147483648), 2147483647), .inl (0, 1023)], some (.inl ((-2147483648), 2147483647)), ([], []), [], [], [], 0, 0, [], [], [])
/-- DimShelf$Worker.workCond -/
abbrev ap_c140 : ak_Con := (140, [.inr (some ([61], false)), .inl ((-2147483648), 2147483647), .inl ((-2147483648), 2147483647)], none, ([97], [(9, 8), (9, 9), (9, 10), (9, 11), (9, 12)]), [], [], [], 0, 0, [], [], [])
/-- DimShelf$Rows.setTerm -/
abbrev ap_c105 : ak_Con := (105, [.inr (some ([58], false)), .inl ((-1), 20000000), .inl ((-2147483648), 2147483647), .inl (0, 1), .inl ((-2147483648), 2147483647)], none, ([94, 95], []), [], [], [], 0, 0, [], [], [])
/-- DimShelf$Worker.addTerm -/
abbrev ap_c145 : ak_Con := (145, [.inr (some ([61], false)), .inr (some ([58], true))], none, ([94, 95], [(9, 14)]), [], [], [], 0, 0, [], [], [])
/-- DimShelf$Rows.drop -/
abbrev ap_c110 : ak_Con := (110, [.inr (some ([58], false)), .inl ((-1), 20000000), .inl (0, 1023)], none, ([96], []), [], [], [], 0, 0, [], [], [])
/-- DimShelf$Worker.limitRow -/
abbrev ap_c146 : ak_Con := (146, [.inr (some ([61], false)), .inr (some ([58], true))], none, ([96], []), [], [], [], 0, 0, [], [], [])
/-- DimShelf$Shelf.setCell -/
abbrev ap_c5 : ak_Con := (5, [.inr (some ([59], false)), .inl (0, 1023), .inl (0, 7), .inl (0, 511)], none, ([68], []), [], [], [], 0, 0, [], [], [])
/-- DimShelf$Shelf.settle -/
abbrev ap_c3 : ak_Con := (3, [.inr (some ([59], false))], none, ([68, 69, 70], [(7, 14)]), [], [], [], 0, 0, [], [], [])
/-- DimShelf$Worker.full -/
abbrev ap_c107 : ak_Con := (107, [.inr (some ([61], false)), .inl (0, 2499)], none, ([], [(4, 5), (4, 6)]), [], [], [], 0, 0, [], [], [])
/-- DimShelf$Worker.test -/
abbrev ap_c121 : ak_Con := (121, [.inr (some ([61], false)), .inr (some ([58], false))], none, ([96], []), [], [], [], 0, 0, [], [], [])
/-- DimShelf$Grouper.pick -/
abbrev ap_c125 : ak_Con := (125, [.inr (some ([53], false)), .inl ((-2147483648), 2147483647)], none, ([89], [(1, 1)]), [], [], [], 0, 0, [], [], [])
/-- java/util/Arrays.fill -/
abbrev ap_c117 : ak_Con := (117, [.inr (some ([96], false)), .inl (0, 0)], none, ([96], []), [], [], [], 0, 0, [], [], [])
/-- DimShelf$Rows.put -/
abbrev ap_c109 : ak_Con := (109, [.inr (some ([58], false)), .inl ((-1), 20000000), .inl (0, 1023)], none, ([96], []), [], [], [], 0, 0, [], [], [])
/-- DimShelf$Grouper.isAlike -/
abbrev ap_c132 : ak_Con := (132, [.inr (some ([53], false)), .inr (some ([59], false)), .inr (some ([58], false)), .inl (0, 29), .inl (0, 29), .inl (0, 1023)], some (.inl (0, 1)), ([], []), [], [], [], 0, 0, [], [], [])
/-- DimShelf$Grouper.isFirst -/
abbrev ap_c131 : ak_Con := (131, [.inr (some ([53], false)), .inr (some ([59], false)), .inr (some ([58], false)), .inl (0, 29), .inl (0, 1023)], some (.inl (0, 1)), ([], []), [], [], [], 0, 0, [], [], [])
/-- DimShelf$Grouper.start -/
abbrev ap_c134 : ak_Con := (134, [.inr (some ([53], false)), .inl ((-2147483648), 2147483647)], some (.inl ((-2147483648), 2147483647)), ([], []), [], [], [], 0, 0, [], [], [])
/-- DimShelf$Grouper.more -/
abbrev ap_c135 : ak_Con := (135, [.inr (some ([53], false)), .inl ((-2147483648), 2147483647), .inl ((-2147483648), 2147483647)], some (.inl ((-2147483648), 2147483647)), ([], []), [], [], [], 0, 0, [], [], [])
/-- DimShelf$Grouper.tally -/
abbrev ap_c133 : ak_Con := (133, [.inr (some ([53], false)), .inr (some ([59], false)), .inr (some ([58], false)), .inl (0, 29), .inl (1, 30), .inl (0, 1023)], some (.inl ((-2147483648), 2147483647)), ([], []), [], [], [], 0, 0, [], [], [])
/-- DimShelf$Grouper.isTuple -/
abbrev ap_c137 : ak_Con := (137, [.inr (some ([53], false)), .inr (some ([58], false)), .inl (0, 19999999)], some (.inl (0, 1)), ([], []), [], [], [], 0, 0, [], [], [])
/-- DimShelf$Grouper.groupIn -/
abbrev ap_c128 : ak_Con := (128, [.inr (some ([53], false)), .inr (some ([59], false)), .inr (some ([58], false)), .inr (some ([58], false)), .inl (0, 1023)], some (.inl (0, 1)), ([90, 91, 94, 95, 96], [(6, 4)]), [], [], [], 0, 0, [], [], [])
/-- DimShelf$Rows.change -/
abbrev ap_c139 : ak_Con := (139, [.inr (some ([58], false)), .inl (0, 19999999), .inl (0, 19999999), .inl (0, 1024)], none, ([94, 95, 96], []), [], [], [], 0, 0, [], [], [])
/-- DimShelf$Grouper.sort -/
abbrev ap_c138 : ak_Con := (138, [.inr (some ([59], false)), .inr (some ([58], false))], none, ([94, 95, 96], []), [], [], [], 0, 0, [], [], [])
/-- DimShelf$Grouper.group -/
abbrev ap_c127 : ak_Con := (127, [.inr (some ([53], false)), .inr (some ([59], false)), .inr (some ([58], false)), .inr (some ([58], false))], some (.inl (0, 1)), ([90, 91, 94, 95, 96], [(6, 3), (6, 4)]), [], [], [], 0, 0, [], [], [])
/-- DimShelf$Rows.neverMeets -/
abbrev ap_c112 : ak_Con := (112, [.inr (some ([58], false)), .inl (0, 19999999), .inr (some ([58], false)), .inl (0, 19999999), .inl ((-2147483648), 2147483647)], some (.inl (0, 1)), ([], []), [], [], [], 0, 0, [], [], [])
/-- DimShelf$Rows.meets -/
abbrev ap_c113 : ak_Con := (113, [.inr (some ([58], false)), .inr (some ([59], false)), .inl (0, 19999999), .inr (some ([58], false)), .inl (0, 19999999), .inl ((-2147483648), 2147483647), .inl (0, 1023)], some (.inl (0, 1)), ([], []), [], [], [], 0, 0, [], [], [])
/-- DimShelf$Worker.minus -/
abbrev ap_c111 : ak_Con := (111, [.inr (some ([61], false)), .inr (some ([58], false)), .inr (some ([58], false))], none, ([96], []), [], [], [], 0, 0, [], [], [])
/-- DimShelf$Rows.newColumns -/
abbrev ap_c119 : ak_Con := (119, [.inr (some ([58], false)), .inl (0, 20000000), .inl ((-2147483648), 2147483647)], some (.inl ((-2147483648), 2147483647)), ([], []), [], [], [], 0, 0, [], [], [])
/-- DimShelf$Worker.work (by hand) -/
abbrev ap_c97 : ak_Con := (97, [.inr (some ([61], false)), .inr (some ([59], false))], none, ([68, 69, 70, 89, 90, 91, 92, 93, 94, 95, 96, 97], [(1, 1), (1, 2), (1, 3), (4, 5), (4, 6), (6, 3), (6, 4), (7, 14), (7, 15), (9, 4), (9, 5), (9, 7), (9, 8), (9, 9), (9, 10), (9, 11), (9, 12), (9, 13), (9, 14)]), [], [], [], 0, 0, [], [], [])
/-- DimShelf$Worker.workTold (by hand) -/
abbrev ap_c143 : ak_Con := (143, [.inr (some ([61], false)), .inl ((-2147483648), 199), .inl (0, 2499)], none, ([69, 70, 94, 95, 96], [(4, 5), (4, 6), (6, 4), (7, 14), (7, 15), (9, 4), (9, 13), (9, 14)]), [], [], [], 0, 0, [], [], [])
/-- DimShelf$Worker.startRow (by hand) -/
abbrev ap_c144 : ak_Con := (144, [.inr (some ([61], false)), .inr (some ([58], true))], none, ([96], [(6, 4)]), [], [], [], 0, 0, [], [], [])
/-- DimShelf$Worker.workQuery (by hand) -/
abbrev ap_c98 : ak_Con := (98, [.inr (some ([61], false)), .inl (210, 2147483647), .inl (0, 2499)], none, ([89, 90, 91, 92, 93, 94, 95, 96], [(1, 1), (1, 2), (1, 3), (4, 5), (4, 6), (6, 3), (6, 4), (9, 4), (9, 5)]), [], [], [], 0, 0, [], [], [])
/-- DimShelf$Worker.rowsAt (by hand) -/
abbrev ap_c100 : ak_Con := (100, [.inr (some ([61], false)), .inl ((-2147483648), 2147483647)], some (.inr (some ([58], false))), ([93], []), [], [], [], 0, 0, [], [], [])
/-- DimShelf$Worker.useScratch (by hand) -/
abbrev ap_c120 : ak_Con := (120, [.inr (some ([61], false))], none, ([93], [(9, 5)]), [], [], [], 0, 0, [], [], [])
/-- DimShelf$Grouper.project (by hand) -/
abbrev ap_c126 : ak_Con := (126, [.inr (some ([53], false)), .inr (some ([58], false))], none, ([91, 92, 94, 95], [(6, 3)]), [], [], [], 0, 0, [], [], [])
/-- DimShelf$Rows.clear (by hand) -/
abbrev ap_c116 : ak_Con := (116, [.inr (some ([58], false)), .inl (0, 6)], none, ([96], [(6, 3), (6, 4)]), [], [], [], 0, 0, [], [], [])
/-- DimShelf$Grouper.find (by hand) -/
abbrev ap_c136 : ak_Con := (136, [.inr (some ([53], false)), .inr (some ([58], false))], some (.inl ((-1), 19999999)), ([94, 95], [(6, 4)]), [], [], [], 0, 0, [], [], [])
/-- DimShelf$Worker.load (by hand) -/
abbrev ap_c99 : ak_Con := (99, [.inr (some ([61], false)), .inr (some ([58], true))], none, ([93, 94, 95, 96], [(6, 3), (6, 4), (9, 4)]), [], [], [], 0, 0, [], [], [])
/-- DimShelf$Rows.copyFrom (by hand) -/
abbrev ap_c101 : ak_Con := (101, [.inr (some ([58], false)), .inr (some ([58], false))], none, ([94, 95, 96], [(6, 3), (6, 4)]), [], [], [], 0, 0, [], [], [])
/-- DimShelf$Rows.addFrom (by hand) -/
abbrev ap_c102 : ak_Con := (102, [.inr (some ([58], false)), .inr (some ([58], false)), .inl (0, 19999999)], some (.inl (0, 20000000)), ([94, 95], [(6, 4)]), [], [], [], 0, 0, [], [], [])
/-- DimShelf$Shelf.empty -/
abbrev ap_c2 : ak_Con := (2, [.inr (some ([59], false))], none, ([], [(7, 11), (7, 12), (7, 13), (7, 15), (7, 16), (7, 17)]), [], [], [], 0, 0, [], [], [])
/-- by hand, wanted below in ak_C0: judge, makeRoom, mergeRuns, put, ref, understand -/
def ap_hl0 : List (Nat × ak_Con) := [(7, ap_c156), (7, ap_c20a), (2, ap_c176), (1, ap_c178), (1, ap_c181), (6, ap_c179)]
def ap_H0 (SP : List Nat → aj_H → Prop) (kap : aj_H → Int) (tb : aj_T) : Prop := ∀ q ∈ ap_hl0, ak_CT ak_C0 SP kap tb q.1 q.2
/-- by hand, wanted below in ak_C1: addColumn, fail, intAt -/
def ap_hl1 : List (Nat × ak_Con) := [(1, ap_c44), (1, ap_c67), (1, ap_c83)]
def ap_H1 (SP : List Nat → aj_H → Prop) (kap : aj_H → Int) (tb : aj_T) : Prop := ∀ q ∈ ap_hl1, ak_CT ak_C1 SP kap tb q.1 q.2
/-- by hand, wanted below in ak_CW: clear, fail, find -/
def ap_hlW : List (Nat × ak_Con) := [(1, ap_c44), (3, ap_c136), (2, ap_c116)]
def ap_HW (SP : List Nat → aj_H → Prop) (kap : aj_H → Int) (tb : aj_T) : Prop := ∀ q ∈ ap_hlW, ak_CT ak_CW SP kap tb q.1 q.2
/-- by hand, wanted below in ak_CE:  -/
def ap_hlE : List (Nat × ak_Con) := []
def ap_HE (SP : List Nat → aj_H → Prop) (kap : aj_H → Int) (tb : aj_T) : Prop := ∀ q ∈ ap_hlE, ak_CT ak_CE SP kap tb q.1 q.2
