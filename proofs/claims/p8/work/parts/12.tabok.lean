set_option maxRecDepth 100000 in
theorem aj_lks_0 : aj_lksOK aj_Tg aj_nw aj_cls aj_mt aj_sf "DimShelf" aj_lk0 := aj_cks_ok (lp := aj_lp0) (by decide +kernel) (by decide +kernel)
set_option maxRecDepth 100000 in
theorem aj_lks_1 : aj_lksOK aj_Tg aj_nw aj_cls aj_mt aj_sf "DimShelf$Shelf" aj_lk1 := aj_cks_ok (lp := aj_lp1) (by decide +kernel) (by decide +kernel)
set_option maxRecDepth 100000 in
theorem aj_lks_2 : aj_lksOK aj_Tg aj_nw aj_cls aj_mt aj_sf "DimShelf$Tokens" aj_lk2 := aj_cks_ok (lp := aj_lp2) (by decide +kernel) (by decide +kernel)
set_option maxRecDepth 100000 in
theorem aj_lks_3 : aj_lksOK aj_Tg aj_nw aj_cls aj_mt aj_sf "DimShelf$Plan" aj_lk3 := aj_cks_ok (lp := aj_lp3) (by decide +kernel) (by decide +kernel)
set_option maxRecDepth 100000 in
theorem aj_lks_4 : aj_lksOK aj_Tg aj_nw aj_cls aj_mt aj_sf "DimShelf$Parser" aj_lk4 := aj_cks_ok (lp := aj_lp4) (by decide +kernel) (by decide +kernel)
set_option maxRecDepth 100000 in
theorem aj_lks_5 : aj_lksOK aj_Tg aj_nw aj_cls aj_mt aj_sf "DimShelf$Checker" aj_lk5 := aj_cks_ok (lp := aj_lp5) (by decide +kernel) (by decide +kernel)
set_option maxRecDepth 100000 in
theorem aj_lks_6 : aj_lksOK aj_Tg aj_nw aj_cls aj_mt aj_sf "DimShelf$Worker" aj_lk6 := aj_cks_ok (lp := aj_lp6) (by decide +kernel) (by decide +kernel)
set_option maxRecDepth 100000 in
theorem aj_lks_7 : aj_lksOK aj_Tg aj_nw aj_cls aj_mt aj_sf "DimShelf$Grouper" aj_lk7 := aj_cks_ok (lp := aj_lp7) (by decide +kernel) (by decide +kernel)
set_option maxRecDepth 100000 in
theorem aj_lks_8 : aj_lksOK aj_Tg aj_nw aj_cls aj_mt aj_sf "DimShelf$Rows" aj_lk8 := aj_cks_ok (lp := aj_lp8) (by decide +kernel) (by decide +kernel)
set_option maxRecDepth 100000 in
theorem aj_lks_9 : aj_lksOK aj_Tg aj_nw aj_cls aj_mt aj_sf "DimShelf$Listing" aj_lk9 := aj_cks_ok (lp := aj_lp9) (by decide +kernel) (by decide +kernel)
set_option maxRecDepth 100000 in
theorem aj_lks_10 : aj_lksOK aj_Tg aj_nw aj_cls aj_mt aj_sf "DimShelf$Reason" aj_lk10 := aj_cks_ok (lp := aj_lp10) (by decide +kernel) (by decide +kernel)
set_option maxRecDepth 100000 in
theorem aj_lks_11 : aj_lksOK aj_Tg aj_nw aj_cls aj_mt aj_sf "DimShelf$Grammar" aj_lk11 := aj_cks_ok (lp := aj_lp11) (by decide +kernel) (by decide +kernel)
set_option maxRecDepth 100000 in
theorem aj_lks_12 : aj_lksOK aj_Tg aj_nw aj_cls aj_mt aj_sf "java/util/Arrays" aj_lk12 := aj_cks_ok (lp := aj_lp12) (by decide +kernel) (by decide +kernel)
set_option maxRecDepth 100000 in
theorem aj_lks_13 : aj_lksOK aj_Tg aj_nw aj_cls aj_mt aj_sf "java/lang/Integer" aj_lk13 := aj_cks_ok (lp := aj_lp13) (by decide +kernel) (by decide +kernel)
set_option maxRecDepth 100000 in
theorem aj_lks_14 : aj_lksOK aj_Tg aj_nw aj_cls aj_mt aj_sf "DimShelfModel" aj_lk14 := aj_cks_ok (lp := aj_lp14) (by decide +kernel) (by decide +kernel)
set_option maxRecDepth 100000 in
theorem aj_lks_15 : aj_lksOK aj_Tg aj_nw aj_cls aj_mt aj_sf "DimShelfLaw" aj_lk15 := aj_cks_ok (lp := aj_lp15) (by decide +kernel) (by decide +kernel)
