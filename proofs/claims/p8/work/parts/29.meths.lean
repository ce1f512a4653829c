/-! EACH METHOD BY ITS NUMBER (printed by wip/p2/gen_meths.py) -/
def aj_m199 : aj_M := (⟨"DimShelfModel", "<init>", "()V"⟩, aj_bc 1552, 1, none, 0, aj_lk14, "DimShelfModel")
set_option maxRecDepth 100000 in
theorem aj_m199_at : aj_mt[199]? = some aj_m199 := rfl
theorem aj_d199 : aj_ctOK aj_c199 aj_m199.2.1 := by
  unfold aj_m199
  dsimp only
  exact aj_dk199
def aj_m200 : aj_M := (⟨"DimShelfModel", "feed", "(IIIII)I"⟩, aj_bc 1777, 6, (some (FieldType.int)), 5, aj_lk14, "DimShelfModel")
set_option maxRecDepth 100000 in
theorem aj_m200_at : aj_mt[200]? = some aj_m200 := rfl
theorem aj_d200 : aj_ctOK aj_c200 aj_m200.2.1 := by
  unfold aj_m200
  dsimp only
  exact aj_dk200
def aj_m201 : aj_M := (⟨"DimShelfModel", "byteRow", "(I)V"⟩, aj_bc 1781, 3, none, 1, aj_lk14, "DimShelfModel")
set_option maxRecDepth 100000 in
theorem aj_m201_at : aj_mt[201]? = some aj_m201 := rfl
theorem aj_d201 : aj_ctOK aj_c201 aj_m201.2.1 := by
  unfold aj_m201
  dsimp only
  exact aj_dk201
def aj_m202 : aj_M := (⟨"DimShelfModel", "back", "(I)I"⟩, aj_bc 1785, 2, (some (FieldType.int)), 1, aj_lk14, "DimShelfModel")
set_option maxRecDepth 100000 in
theorem aj_m202_at : aj_mt[202]? = some aj_m202 := rfl
theorem aj_d202 : aj_ctOK aj_c202 aj_m202.2.1 := by
  unfold aj_m202
  dsimp only
  exact aj_dk202
def aj_m203 : aj_M := (⟨"DimShelfModel", "read", "()I"⟩, aj_bc 1789, 2, (some (FieldType.int)), 0, aj_lk14, "DimShelfModel")
set_option maxRecDepth 100000 in
theorem aj_m203_at : aj_mt[203]? = some aj_m203 := rfl
theorem aj_d203 : aj_ctOK aj_c203 aj_m203.2.1 := by
  unfold aj_m203
  dsimp only
  exact aj_dk203
def aj_m204 : aj_M := (⟨"DimShelfModel", "text", "()Z"⟩, aj_bc 1793, 2, (some (FieldType.boolean)), 0, aj_lk14, "DimShelfModel")
set_option maxRecDepth 100000 in
theorem aj_m204_at : aj_mt[204]? = some aj_m204 := rfl
theorem aj_d204 : aj_ctOK aj_c204 aj_m204.2.1 := by
  unfold aj_m204
  dsimp only
  exact aj_dk204
def aj_m205 : aj_M := (⟨"DimShelfModel", "start", "()V"⟩, aj_bc 1797, 1, none, 0, aj_lk14, "DimShelfModel")
set_option maxRecDepth 100000 in
theorem aj_m205_at : aj_mt[205]? = some aj_m205 := rfl
theorem aj_d205 : aj_ctOK aj_c205 aj_m205.2.1 := by
  unfold aj_m205
  dsimp only
  exact aj_dk205
def aj_m206 : aj_M := (⟨"DimShelfModel", "next", "()V"⟩, aj_bc 1801, 6, none, 0, aj_lk14, "DimShelfModel")
set_option maxRecDepth 100000 in
theorem aj_m206_at : aj_mt[206]? = some aj_m206 := rfl
theorem aj_d206 : aj_ctOK aj_c206 aj_m206.2.1 := by
  unfold aj_m206
  dsimp only
  exact aj_dk206
def aj_m207 : aj_M := (⟨"DimShelfModel", "seen", "(I)I"⟩, aj_bc 1805, 2, (some (FieldType.int)), 1, aj_lk14, "DimShelfModel")
set_option maxRecDepth 100000 in
theorem aj_m207_at : aj_mt[207]? = some aj_m207 := rfl
theorem aj_d207 : aj_ctOK aj_c207 aj_m207.2.1 := by
  unfold aj_m207
  dsimp only
  exact aj_dk207
def aj_m208 : aj_M := (⟨"DimShelfModel", "isLetter", "(I)Z"⟩, aj_bc 1809, 2, (some (FieldType.boolean)), 1, aj_lk14, "DimShelfModel")
set_option maxRecDepth 100000 in
theorem aj_m208_at : aj_mt[208]? = some aj_m208 := rfl
theorem aj_d208 : aj_ctOK aj_c208 aj_m208.2.1 := by
  unfold aj_m208
  dsimp only
  exact aj_dk208
def aj_m209 : aj_M := (⟨"DimShelfModel", "isDigit", "(I)Z"⟩, aj_bc 1813, 2, (some (FieldType.boolean)), 1, aj_lk14, "DimShelfModel")
set_option maxRecDepth 100000 in
theorem aj_m209_at : aj_mt[209]? = some aj_m209 := rfl
theorem aj_d209 : aj_ctOK aj_c209 aj_m209.2.1 := by
  unfold aj_m209
  dsimp only
  exact aj_dk209
def aj_m210 : aj_M := (⟨"DimShelfModel", "packed", "(II)J"⟩, aj_bc 1817, 6, (some (FieldType.long)), 2, aj_lk14, "DimShelfModel")
set_option maxRecDepth 100000 in
theorem aj_m210_at : aj_mt[210]? = some aj_m210 := rfl
theorem aj_d210 : aj_ctOK aj_c210 aj_m210.2.1 := by
  unfold aj_m210
  dsimp only
  exact aj_dk210
def aj_m211 : aj_M := (⟨"DimShelfModel", "word", "(J)I"⟩, aj_bc 1820, 2, (some (FieldType.int)), 1, aj_lk14, "DimShelfModel")
set_option maxRecDepth 100000 in
theorem aj_m211_at : aj_mt[211]? = some aj_m211 := rfl
theorem aj_d211 : aj_ctOK aj_c211 aj_m211.2.1 := by
  unfold aj_m211
  dsimp only
  exact aj_dk211
def aj_m212 : aj_M := (⟨"DimShelfModel", "isWord", "(I)Z"⟩, aj_bc 1834, 2, (some (FieldType.boolean)), 1, aj_lk14, "DimShelfModel")
set_option maxRecDepth 100000 in
theorem aj_m212_at : aj_mt[212]? = some aj_m212 := rfl
theorem aj_d212 : aj_ctOK aj_c212 aj_m212.2.1 := by
  unfold aj_m212
  dsimp only
  exact aj_dk212
def aj_m213 : aj_M := (⟨"DimShelfModel", "unknownTold", "()Z"⟩, aj_bc 1838, 6, (some (FieldType.boolean)), 0, aj_lk14, "DimShelfModel")
set_option maxRecDepth 100000 in
theorem aj_m213_at : aj_mt[213]? = some aj_m213 := rfl
theorem aj_d213 : aj_ctOK aj_c213 aj_m213.2.1 := by
  unfold aj_m213
  dsimp only
  exact aj_dk213
def aj_m214 : aj_M := (⟨"DimShelfModel", "pass", "()Z"⟩, aj_bc 1842, 1, (some (FieldType.boolean)), 0, aj_lk14, "DimShelfModel")
set_option maxRecDepth 100000 in
theorem aj_m214_at : aj_mt[214]? = some aj_m214 := rfl
theorem aj_d214 : aj_ctOK aj_c214 aj_m214.2.1 := by
  unfold aj_m214
  dsimp only
  exact aj_dk214
def aj_m215 : aj_M := (⟨"DimShelfModel", "stop", "(II)Z"⟩, aj_bc 1846, 3, (some (FieldType.boolean)), 2, aj_lk14, "DimShelfModel")
set_option maxRecDepth 100000 in
theorem aj_m215_at : aj_mt[215]? = some aj_m215 := rfl
theorem aj_d215 : aj_ctOK aj_c215 aj_m215.2.1 := by
  unfold aj_m215
  dsimp only
  exact aj_dk215
def aj_m216 : aj_M := (⟨"DimShelfModel", "named", "()Z"⟩, aj_bc 1850, 1, (some (FieldType.boolean)), 0, aj_lk14, "DimShelfModel")
set_option maxRecDepth 100000 in
theorem aj_m216_at : aj_mt[216]? = some aj_m216 := rfl
theorem aj_d216 : aj_ctOK aj_c216 aj_m216.2.1 := by
  unfold aj_m216
  dsimp only
  exact aj_dk216
def aj_m217 : aj_M := (⟨"DimShelfModel", "unknown", "(IJ)I"⟩, aj_bc 1854, 5, (some (FieldType.int)), 2, aj_lk14, "DimShelfModel")
set_option maxRecDepth 100000 in
theorem aj_m217_at : aj_mt[217]? = some aj_m217 := rfl
theorem aj_d217 : aj_ctOK aj_c217 aj_m217.2.1 := by
  unfold aj_m217
  dsimp only
  exact aj_dk217
def aj_m218 : aj_M := (⟨"DimShelfModel", "tell", "(II)V"⟩, aj_bc 1858, 3, none, 2, aj_lk14, "DimShelfModel")
set_option maxRecDepth 100000 in
theorem aj_m218_at : aj_mt[218]? = some aj_m218 := rfl
theorem aj_d218 : aj_ctOK aj_c218 aj_m218.2.1 := by
  unfold aj_m218
  dsimp only
  exact aj_dk218
def aj_m219 : aj_M := (⟨"DimShelfModel", "sign", "(I)Z"⟩, aj_bc 1862, 2, (some (FieldType.boolean)), 1, aj_lk14, "DimShelfModel")
set_option maxRecDepth 100000 in
theorem aj_m219_at : aj_mt[219]? = some aj_m219 := rfl
theorem aj_d219 : aj_ctOK aj_c219 aj_m219.2.1 := by
  unfold aj_m219
  dsimp only
  exact aj_dk219
def aj_m220 : aj_M := (⟨"DimShelfModel", "isSign", "(I)Z"⟩, aj_bc 1866, 2, (some (FieldType.boolean)), 1, aj_lk14, "DimShelfModel")
set_option maxRecDepth 100000 in
theorem aj_m220_at : aj_mt[220]? = some aj_m220 := rfl
theorem aj_d220 : aj_ctOK aj_c220 aj_m220.2.1 := by
  unfold aj_m220
  dsimp only
  exact aj_dk220
def aj_m221 : aj_M := (⟨"DimShelfModel", "whole", "()Z"⟩, aj_bc 1870, 4, (some (FieldType.boolean)), 0, aj_lk14, "DimShelfModel")
set_option maxRecDepth 100000 in
theorem aj_m221_at : aj_mt[221]? = some aj_m221 := rfl
theorem aj_d221 : aj_ctOK aj_c221 aj_m221.2.1 := by
  unfold aj_m221
  dsimp only
  exact aj_dk221
def aj_m222 : aj_M := (⟨"DimShelfModel", "span", "(I)Z"⟩, aj_bc 1874, 4, (some (FieldType.boolean)), 1, aj_lk14, "DimShelfModel")
set_option maxRecDepth 100000 in
theorem aj_m222_at : aj_mt[222]? = some aj_m222 := rfl
theorem aj_d222 : aj_ctOK aj_c222 aj_m222.2.1 := by
  unfold aj_m222
  dsimp only
  exact aj_dk222
def aj_m223 : aj_M := (⟨"DimShelfModel", "list", "(I)Z"⟩, aj_bc 1878, 3, (some (FieldType.boolean)), 1, aj_lk14, "DimShelfModel")
set_option maxRecDepth 100000 in
theorem aj_m223_at : aj_mt[223]? = some aj_m223 := rfl
theorem aj_d223 : aj_ctOK aj_c223 aj_m223.2.1 := by
  unfold aj_m223
  dsimp only
  exact aj_dk223
def aj_m224 : aj_M := (⟨"DimShelfModel", "worldsAnew", "()V"⟩, aj_bc 1882, 7, none, 0, aj_lk14, "DimShelfModel")
set_option maxRecDepth 100000 in
theorem aj_m224_at : aj_mt[224]? = some aj_m224 := rfl
theorem aj_d224 : aj_ctOK aj_c224 aj_m224.2.1 := by
  unfold aj_m224
  dsimp only
  exact aj_dk224
def aj_m225 : aj_M := (⟨"DimShelfModel", "at", "(II)I"⟩, aj_bc 1886, 3, (some (FieldType.int)), 2, aj_lk14, "DimShelfModel")
set_option maxRecDepth 100000 in
theorem aj_m225_at : aj_mt[225]? = some aj_m225 := rfl
theorem aj_d225 : aj_ctOK aj_c225 aj_m225.2.1 := by
  unfold aj_m225
  dsimp only
  exact aj_dk225
def aj_m226 : aj_M := (⟨"DimShelfModel", "spread", "([III)V"⟩, aj_bc 1890, 5, none, 3, aj_lk14, "DimShelfModel")
set_option maxRecDepth 100000 in
theorem aj_m226_at : aj_mt[226]? = some aj_m226 := rfl
theorem aj_d226 : aj_ctOK aj_c226 aj_m226.2.1 := by
  unfold aj_m226
  dsimp only
  exact aj_dk226
def aj_m227 : aj_M := (⟨"DimShelfModel", "bit", "([III)Z"⟩, aj_bc 1893, 3, (some (FieldType.boolean)), 3, aj_lk14, "DimShelfModel")
set_option maxRecDepth 100000 in
theorem aj_m227_at : aj_mt[227]? = some aj_m227 := rfl
theorem aj_d227 : aj_ctOK aj_c227 aj_m227.2.1 := by
  unfold aj_m227
  dsimp only
  exact aj_dk227
def aj_m228 : aj_M := (⟨"DimShelfModel", "put", "([IIIZ)V"⟩, aj_bc 1896, 6, none, 4, aj_lk14, "DimShelfModel")
set_option maxRecDepth 100000 in
theorem aj_m228_at : aj_mt[228]? = some aj_m228 := rfl
theorem aj_d228 : aj_ctOK aj_c228 aj_m228.2.1 := by
  unfold aj_m228
  dsimp only
  exact aj_dk228
def aj_m229 : aj_M := (⟨"DimShelfModel", "tableTold", "()Z"⟩, aj_bc 1900, 2, (some (FieldType.boolean)), 0, aj_lk14, "DimShelfModel")
set_option maxRecDepth 100000 in
theorem aj_m229_at : aj_mt[229]? = some aj_m229 := rfl
theorem aj_d229 : aj_ctOK aj_c229 aj_m229.2.1 := by
  unfold aj_m229
  dsimp only
  exact aj_dk229
def aj_m230 : aj_M := (⟨"DimShelfModel", "tableName", "(I)Z"⟩, aj_bc 1904, 2, (some (FieldType.boolean)), 1, aj_lk14, "DimShelfModel")
set_option maxRecDepth 100000 in
theorem aj_m230_at : aj_mt[230]? = some aj_m230 := rfl
theorem aj_d230 : aj_ctOK aj_c230 aj_m230.2.1 := by
  unfold aj_m230
  dsimp only
  exact aj_dk230
def aj_m231 : aj_M := (⟨"DimShelfModel", "tableOf", "(IJ)I"⟩, aj_bc 1908, 5, (some (FieldType.int)), 2, aj_lk14, "DimShelfModel")
set_option maxRecDepth 100000 in
theorem aj_m231_at : aj_mt[231]? = some aj_m231 := rfl
theorem aj_d231 : aj_ctOK aj_c231 aj_m231.2.1 := by
  unfold aj_m231
  dsimp only
  exact aj_dk231
def aj_m232 : aj_M := (⟨"DimShelfModel", "columnTold", "(I)Z"⟩, aj_bc 1912, 2, (some (FieldType.boolean)), 1, aj_lk14, "DimShelfModel")
set_option maxRecDepth 100000 in
theorem aj_m232_at : aj_mt[232]? = some aj_m232 := rfl
theorem aj_d232 : aj_ctOK aj_c232 aj_m232.2.1 := by
  unfold aj_m232
  dsimp only
  exact aj_dk232
def aj_m233 : aj_M := (⟨"DimShelfModel", "columnOf", "(IJ)I"⟩, aj_bc 1916, 5, (some (FieldType.int)), 2, aj_lk14, "DimShelfModel")
set_option maxRecDepth 100000 in
theorem aj_m233_at : aj_mt[233]? = some aj_m233 := rfl
theorem aj_d233 : aj_ctOK aj_c233 aj_m233.2.1 := by
  unfold aj_m233
  dsimp only
  exact aj_dk233
def aj_m234 : aj_M := (⟨"DimShelfModel", "rowTold", "()Z"⟩, aj_bc 1920, 8, (some (FieldType.boolean)), 0, aj_lk14, "DimShelfModel")
set_option maxRecDepth 100000 in
theorem aj_m234_at : aj_mt[234]? = some aj_m234 := rfl
theorem aj_d234 : aj_ctOK aj_c234 aj_m234.2.1 := by
  unfold aj_m234
  dsimp only
  exact aj_dk234
def aj_m235 : aj_M := (⟨"DimShelfModel", "termTold", "()Z"⟩, aj_bc 1924, 1, (some (FieldType.boolean)), 0, aj_lk14, "DimShelfModel")
set_option maxRecDepth 100000 in
theorem aj_m235_at : aj_mt[235]? = some aj_m235 := rfl
theorem aj_d235 : aj_ctOK aj_c235 aj_m235.2.1 := by
  unfold aj_m235
  dsimp only
  exact aj_dk235
def aj_m236 : aj_M := (⟨"DimShelfModel", "cellAt", "(III)I"⟩, aj_bc 1927, 3, (some (FieldType.int)), 3, aj_lk14, "DimShelfModel")
set_option maxRecDepth 100000 in
theorem aj_m236_at : aj_mt[236]? = some aj_m236 := rfl
theorem aj_d236 : aj_ctOK aj_c236 aj_m236.2.1 := by
  unfold aj_m236
  dsimp only
  exact aj_dk236
def aj_m237 : aj_M := (⟨"DimShelfModel", "condition", "()Z"⟩, aj_bc 1931, 3, (some (FieldType.boolean)), 0, aj_lk14, "DimShelfModel")
set_option maxRecDepth 100000 in
theorem aj_m237_at : aj_mt[237]? = some aj_m237 := rfl
theorem aj_d237 : aj_ctOK aj_c237 aj_m237.2.1 := by
  unfold aj_m237
  dsimp only
  exact aj_dk237
def aj_m238 : aj_M := (⟨"DimShelfModel", "compares", "()Z"⟩, aj_bc 1935, 5, (some (FieldType.boolean)), 0, aj_lk14, "DimShelfModel")
set_option maxRecDepth 100000 in
theorem aj_m238_at : aj_mt[238]? = some aj_m238 := rfl
theorem aj_d238 : aj_ctOK aj_c238 aj_m238.2.1 := by
  unfold aj_m238
  dsimp only
  exact aj_dk238
def aj_m239 : aj_M := (⟨"DimShelfModel", "relation", "()Z"⟩, aj_bc 1939, 1, (some (FieldType.boolean)), 0, aj_lk14, "DimShelfModel")
set_option maxRecDepth 100000 in
theorem aj_m239_at : aj_mt[239]? = some aj_m239 := rfl
theorem aj_d239 : aj_ctOK aj_c239 aj_m239.2.1 := by
  unfold aj_m239
  dsimp only
  exact aj_dk239
def aj_m240 : aj_M := (⟨"DimShelfModel", "valued", "(IIII)I"⟩, aj_bc 1943, 5, (some (FieldType.int)), 4, aj_lk14, "DimShelfModel")
set_option maxRecDepth 100000 in
theorem aj_m240_at : aj_mt[240]? = some aj_m240 := rfl
theorem aj_d240 : aj_ctOK aj_c240 aj_m240.2.1 := by
  unfold aj_m240
  dsimp only
  exact aj_dk240
def aj_m241 : aj_M := (⟨"DimShelfModel", "world", "(III)I"⟩, aj_bc 1947, 4, (some (FieldType.int)), 3, aj_lk14, "DimShelfModel")
set_option maxRecDepth 100000 in
theorem aj_m241_at : aj_mt[241]? = some aj_m241 := rfl
theorem aj_d241 : aj_ctOK aj_c241 aj_m241.2.1 := by
  unfold aj_m241
  dsimp only
  exact aj_dk241
def aj_m242 : aj_M := (⟨"DimShelfModel", "related", "(III)Z"⟩, aj_bc 1950, 3, (some (FieldType.boolean)), 3, aj_lk14, "DimShelfModel")
set_option maxRecDepth 100000 in
theorem aj_m242_at : aj_mt[242]? = some aj_m242 := rfl
theorem aj_d242 : aj_ctOK aj_c242 aj_m242.2.1 := by
  unfold aj_m242
  dsimp only
  exact aj_dk242
def aj_m243 : aj_M := (⟨"DimShelfModel", "isWaiting", "(I)Z"⟩, aj_bc 1954, 2, (some (FieldType.boolean)), 1, aj_lk14, "DimShelfModel")
set_option maxRecDepth 100000 in
theorem aj_m243_at : aj_mt[243]? = some aj_m243 := rfl
theorem aj_d243 : aj_ctOK aj_c243 aj_m243.2.1 := by
  unfold aj_m243
  dsimp only
  exact aj_dk243
def aj_m244 : aj_M := (⟨"DimShelfModel", "reduce", "()V"⟩, aj_bc 1958, 7, none, 0, aj_lk14, "DimShelfModel")
set_option maxRecDepth 100000 in
theorem aj_m244_at : aj_mt[244]? = some aj_m244 := rfl
theorem aj_d244 : aj_ctOK aj_c244 aj_m244.2.1 := by
  unfold aj_m244
  dsimp only
  exact aj_dk244
def aj_m245 : aj_M := (⟨"DimShelfModel", "invert", "(I)V"⟩, aj_bc 1962, 3, none, 1, aj_lk14, "DimShelfModel")
set_option maxRecDepth 100000 in
theorem aj_m245_at : aj_mt[245]? = some aj_m245 := rfl
theorem aj_d245 : aj_ctOK aj_c245 aj_m245.2.1 := by
  unfold aj_m245
  dsimp only
  exact aj_dk245
def aj_m246 : aj_M := (⟨"DimShelfModel", "alwaysTold", "()Z"⟩, aj_bc 1966, 5, (some (FieldType.boolean)), 0, aj_lk14, "DimShelfModel")
set_option maxRecDepth 100000 in
theorem aj_m246_at : aj_mt[246]? = some aj_m246 := rfl
theorem aj_d246 : aj_ctOK aj_c246 aj_m246.2.1 := by
  unfold aj_m246
  dsimp only
  exact aj_dk246
def aj_m247 : aj_M := (⟨"DimShelfModel", "isHeld", "(II)Z"⟩, aj_bc 1970, 4, (some (FieldType.boolean)), 2, aj_lk14, "DimShelfModel")
set_option maxRecDepth 100000 in
theorem aj_m247_at : aj_mt[247]? = some aj_m247 := rfl
theorem aj_d247 : aj_ctOK aj_c247 aj_m247.2.1 := by
  unfold aj_m247
  dsimp only
  exact aj_dk247
def aj_m248 : aj_M := (⟨"DimShelfModel", "answerTold", "()Z"⟩, aj_bc 1974, 4, (some (FieldType.boolean)), 0, aj_lk14, "DimShelfModel")
set_option maxRecDepth 100000 in
theorem aj_m248_at : aj_mt[248]? = some aj_m248 := rfl
theorem aj_d248 : aj_ctOK aj_c248 aj_m248.2.1 := by
  unfold aj_m248
  dsimp only
  exact aj_dk248
def aj_m249 : aj_M := (⟨"DimShelfModel", "question", "()Z"⟩, aj_bc 1978, 2, (some (FieldType.boolean)), 0, aj_lk14, "DimShelfModel")
set_option maxRecDepth 100000 in
theorem aj_m249_at : aj_mt[249]? = some aj_m249 := rfl
theorem aj_d249 : aj_ctOK aj_c249 aj_m249.2.1 := by
  unfold aj_m249
  dsimp only
  exact aj_dk249
def aj_m250 : aj_M := (⟨"DimShelfModel", "tabled", "(I)Z"⟩, aj_bc 1982, 3, (some (FieldType.boolean)), 1, aj_lk14, "DimShelfModel")
set_option maxRecDepth 100000 in
theorem aj_m250_at : aj_mt[250]? = some aj_m250 := rfl
theorem aj_d250 : aj_ctOK aj_c250 aj_m250.2.1 := by
  unfold aj_m250
  dsimp only
  exact aj_dk250
def aj_m251 : aj_M := (⟨"DimShelfModel", "copy", "(II)V"⟩, aj_bc 1986, 4, none, 2, aj_lk14, "DimShelfModel")
set_option maxRecDepth 100000 in
theorem aj_m251_at : aj_mt[251]? = some aj_m251 := rfl
theorem aj_d251 : aj_ctOK aj_c251 aj_m251.2.1 := by
  unfold aj_m251
  dsimp only
  exact aj_dk251
def aj_m252 : aj_M := (⟨"DimShelfModel", "copyRow", "(IIII)V"⟩, aj_bc 1990, 6, none, 4, aj_lk14, "DimShelfModel")
set_option maxRecDepth 100000 in
theorem aj_m252_at : aj_mt[252]? = some aj_m252 := rfl
theorem aj_d252 : aj_ctOK aj_c252 aj_m252.2.1 := by
  unfold aj_m252
  dsimp only
  exact aj_dk252
def aj_m253 : aj_M := (⟨"DimShelfModel", "steps", "(I)Z"⟩, aj_bc 1994, 3, (some (FieldType.boolean)), 1, aj_lk14, "DimShelfModel")
set_option maxRecDepth 100000 in
theorem aj_m253_at : aj_mt[253]? = some aj_m253 := rfl
theorem aj_d253 : aj_ctOK aj_c253 aj_m253.2.1 := by
  unfold aj_m253
  dsimp only
  exact aj_dk253
def aj_m254 : aj_M := (⟨"DimShelfModel", "tests", "(I)Z"⟩, aj_bc 1998, 8, (some (FieldType.boolean)), 1, aj_lk14, "DimShelfModel")
set_option maxRecDepth 100000 in
theorem aj_m254_at : aj_mt[254]? = some aj_m254 := rfl
theorem aj_d254 : aj_ctOK aj_c254 aj_m254.2.1 := by
  unfold aj_m254
  dsimp only
  exact aj_dk254
def aj_m255 : aj_M := (⟨"DimShelfModel", "side", "(I)Z"⟩, aj_bc 2002, 2, (some (FieldType.boolean)), 1, aj_lk14, "DimShelfModel")
set_option maxRecDepth 100000 in
theorem aj_m255_at : aj_mt[255]? = some aj_m255 := rfl
theorem aj_d255 : aj_ctOK aj_c255 aj_m255.2.1 := by
  unfold aj_m255
  dsimp only
  exact aj_dk255
def aj_m256 : aj_M := (⟨"DimShelfModel", "told", "(I)I"⟩, aj_bc 2006, 3, (some (FieldType.int)), 1, aj_lk14, "DimShelfModel")
set_option maxRecDepth 100000 in
theorem aj_m256_at : aj_mt[256]? = some aj_m256 := rfl
theorem aj_d256 : aj_ctOK aj_c256 aj_m256.2.1 := by
  unfold aj_m256
  dsimp only
  exact aj_dk256
def aj_m257 : aj_M := (⟨"DimShelfModel", "sided", "(IIIII)I"⟩, aj_bc 2010, 6, (some (FieldType.int)), 5, aj_lk14, "DimShelfModel")
set_option maxRecDepth 100000 in
theorem aj_m257_at : aj_mt[257]? = some aj_m257 := rfl
theorem aj_d257 : aj_ctOK aj_c257 aj_m257.2.1 := by
  unfold aj_m257
  dsimp only
  exact aj_dk257
def aj_m258 : aj_M := (⟨"DimShelfModel", "valueAt", "(IIII)I"⟩, aj_bc 2014, 6, (some (FieldType.int)), 4, aj_lk14, "DimShelfModel")
set_option maxRecDepth 100000 in
theorem aj_m258_at : aj_mt[258]? = some aj_m258 := rfl
theorem aj_d258 : aj_ctOK aj_c258 aj_m258.2.1 := by
  unfold aj_m258
  dsimp only
  exact aj_dk258
def aj_m259 : aj_M := (⟨"DimShelfModel", "slotHalf", "(I)I"⟩, aj_bc 2018, 2, (some (FieldType.int)), 1, aj_lk14, "DimShelfModel")
set_option maxRecDepth 100000 in
theorem aj_m259_at : aj_mt[259]? = some aj_m259 := rfl
theorem aj_d259 : aj_ctOK aj_c259 aj_m259.2.1 := by
  unfold aj_m259
  dsimp only
  exact aj_dk259
def aj_m260 : aj_M := (⟨"DimShelfModel", "takes", "(I)Z"⟩, aj_bc 2022, 4, (some (FieldType.boolean)), 1, aj_lk14, "DimShelfModel")
set_option maxRecDepth 100000 in
theorem aj_m260_at : aj_mt[260]? = some aj_m260 := rfl
theorem aj_d260 : aj_ctOK aj_c260 aj_m260.2.1 := by
  unfold aj_m260
  dsimp only
  exact aj_dk260
def aj_m261 : aj_M := (⟨"DimShelfModel", "columns", "(IZ)Z"⟩, aj_bc 2026, 7, (some (FieldType.boolean)), 2, aj_lk14, "DimShelfModel")
set_option maxRecDepth 100000 in
theorem aj_m261_at : aj_mt[261]? = some aj_m261 := rfl
theorem aj_d261 : aj_ctOK aj_c261 aj_m261.2.1 := by
  unfold aj_m261
  dsimp only
  exact aj_dk261
def aj_m262 : aj_M := (⟨"DimShelfModel", "renames", "(I)Z"⟩, aj_bc 2030, 6, (some (FieldType.boolean)), 1, aj_lk14, "DimShelfModel")
set_option maxRecDepth 100000 in
theorem aj_m262_at : aj_mt[262]? = some aj_m262 := rfl
theorem aj_d262 : aj_ctOK aj_c262 aj_m262.2.1 := by
  unfold aj_m262
  dsimp only
  exact aj_dk262
def aj_m263 : aj_M := (⟨"DimShelfModel", "groups", "(I)Z"⟩, aj_bc 2034, 8, (some (FieldType.boolean)), 1, aj_lk14, "DimShelfModel")
set_option maxRecDepth 100000 in
theorem aj_m263_at : aj_mt[263]? = some aj_m263 := rfl
theorem aj_d263 : aj_ctOK aj_c263 aj_m263.2.1 := by
  unfold aj_m263
  dsimp only
  exact aj_dk263
def aj_m264 : aj_M := (⟨"DimShelfModel", "act", "()Z"⟩, aj_bc 2038, 1, (some (FieldType.boolean)), 0, aj_lk14, "DimShelfModel")
set_option maxRecDepth 100000 in
theorem aj_m264_at : aj_mt[264]? = some aj_m264 := rfl
theorem aj_d264 : aj_ctOK aj_c264 aj_m264.2.1 := by
  unfold aj_m264
  dsimp only
  exact aj_dk264
def aj_m265 : aj_M := (⟨"DimShelfModel", "group", "(IIII)Z"⟩, aj_bc 2042, 8, (some (FieldType.boolean)), 4, aj_lk14, "DimShelfModel")
set_option maxRecDepth 100000 in
theorem aj_m265_at : aj_mt[265]? = some aj_m265 := rfl
theorem aj_d265 : aj_ctOK aj_c265 aj_m265.2.1 := by
  unfold aj_m265
  dsimp only
  exact aj_dk265
def aj_m266 : aj_M := (⟨"DimShelfModel", "collect", "(II)V"⟩, aj_bc 2046, 6, none, 2, aj_lk14, "DimShelfModel")
set_option maxRecDepth 100000 in
theorem aj_m266_at : aj_mt[266]? = some aj_m266 := rfl
theorem aj_d266 : aj_ctOK aj_c266 aj_m266.2.1 := by
  unfold aj_m266
  dsimp only
  exact aj_dk266
def aj_m267 : aj_M := (⟨"DimShelfModel", "compareRows", "(IIIII)I"⟩, aj_bc 2050, 9, (some (FieldType.int)), 5, aj_lk14, "DimShelfModel")
set_option maxRecDepth 100000 in
theorem aj_m267_at : aj_mt[267]? = some aj_m267 := rfl
theorem aj_d267 : aj_ctOK aj_c267 aj_m267.2.1 := by
  unfold aj_m267
  dsimp only
  exact aj_dk267
def aj_m268 : aj_M := (⟨"DimShelfModel", "isFirst", "(III)Z"⟩, aj_bc 2054, 5, (some (FieldType.boolean)), 3, aj_lk14, "DimShelfModel")
set_option maxRecDepth 100000 in
theorem aj_m268_at : aj_mt[268]? = some aj_m268 := rfl
theorem aj_d268 : aj_ctOK aj_c268 aj_m268.2.1 := by
  unfold aj_m268
  dsimp only
  exact aj_dk268
def aj_m269 : aj_M := (⟨"DimShelfModel", "isGroup", "(IIII)Z"⟩, aj_bc 2058, 6, (some (FieldType.boolean)), 4, aj_lk14, "DimShelfModel")
set_option maxRecDepth 100000 in
theorem aj_m269_at : aj_mt[269]? = some aj_m269 := rfl
theorem aj_d269 : aj_ctOK aj_c269 aj_m269.2.1 := by
  unfold aj_m269
  dsimp only
  exact aj_dk269
def aj_m270 : aj_M := (⟨"DimShelfModel", "reckon", "(IIIII)V"⟩, aj_bc 2062, 9, none, 5, aj_lk14, "DimShelfModel")
set_option maxRecDepth 100000 in
theorem aj_m270_at : aj_mt[270]? = some aj_m270 := rfl
theorem aj_d270 : aj_ctOK aj_c270 aj_m270.2.1 := by
  unfold aj_m270
  dsimp only
  exact aj_dk270
def aj_m271 : aj_M := (⟨"DimShelfModel", "comes", "(II)Z"⟩, aj_bc 2066, 6, (some (FieldType.boolean)), 2, aj_lk14, "DimShelfModel")
set_option maxRecDepth 100000 in
theorem aj_m271_at : aj_mt[271]? = some aj_m271 := rfl
theorem aj_d271 : aj_ctOK aj_c271 aj_m271.2.1 := by
  unfold aj_m271
  dsimp only
  exact aj_dk271
def aj_m272 : aj_M := (⟨"DimShelfModel", "against", "(II)I"⟩, aj_bc 2070, 5, (some (FieldType.int)), 2, aj_lk14, "DimShelfModel")
set_option maxRecDepth 100000 in
theorem aj_m272_at : aj_mt[272]? = some aj_m272 := rfl
theorem aj_d272 : aj_ctOK aj_c272 aj_m272.2.1 := by
  unfold aj_m272
  dsimp only
  exact aj_dk272
def aj_m273 : aj_M := (⟨"DimShelfModel", "isActing", "(I)Z"⟩, aj_bc 2074, 2, (some (FieldType.boolean)), 1, aj_lk14, "DimShelfModel")
set_option maxRecDepth 100000 in
theorem aj_m273_at : aj_mt[273]? = some aj_m273 := rfl
theorem aj_d273 : aj_ctOK aj_c273 aj_m273.2.1 := by
  unfold aj_m273
  dsimp only
  exact aj_dk273
def aj_m274 : aj_M := (⟨"DimShelfModel", "done", "()Z"⟩, aj_bc 2078, 5, (some (FieldType.boolean)), 0, aj_lk14, "DimShelfModel")
set_option maxRecDepth 100000 in
theorem aj_m274_at : aj_mt[274]? = some aj_m274 := rfl
theorem aj_d274 : aj_ctOK aj_c274 aj_m274.2.1 := by
  unfold aj_m274
  dsimp only
  exact aj_dk274
def aj_m275 : aj_M := (⟨"DimShelfModel", "joined", "(II)Z"⟩, aj_bc 2082, 5, (some (FieldType.boolean)), 2, aj_lk14, "DimShelfModel")
set_option maxRecDepth 100000 in
theorem aj_m275_at : aj_mt[275]? = some aj_m275 := rfl
theorem aj_d275 : aj_ctOK aj_c275 aj_m275.2.1 := by
  unfold aj_m275
  dsimp only
  exact aj_dk275
def aj_m276 : aj_M := (⟨"DimShelfModel", "join", "(II)Z"⟩, aj_bc 2086, 10, (some (FieldType.boolean)), 2, aj_lk14, "DimShelfModel")
set_option maxRecDepth 100000 in
theorem aj_m276_at : aj_mt[276]? = some aj_m276 := rfl
theorem aj_d276 : aj_ctOK aj_c276 aj_m276.2.1 := by
  unfold aj_m276
  dsimp only
  exact aj_dk276
def aj_m277 : aj_M := (⟨"DimShelfModel", "isAlike", "(II)Z"⟩, aj_bc 2090, 4, (some (FieldType.boolean)), 2, aj_lk14, "DimShelfModel")
set_option maxRecDepth 100000 in
theorem aj_m277_at : aj_mt[277]? = some aj_m277 := rfl
theorem aj_d277 : aj_ctOK aj_c277 aj_m277.2.1 := by
  unfold aj_m277
  dsimp only
  exact aj_dk277
def aj_m278 : aj_M := (⟨"DimShelfModel", "union", "(II)Z"⟩, aj_bc 2094, 4, (some (FieldType.boolean)), 2, aj_lk14, "DimShelfModel")
set_option maxRecDepth 100000 in
theorem aj_m278_at : aj_mt[278]? = some aj_m278 := rfl
theorem aj_d278 : aj_ctOK aj_c278 aj_m278.2.1 := by
  unfold aj_m278
  dsimp only
  exact aj_dk278
def aj_m279 : aj_M := (⟨"DimShelfModel", "minus", "(I)Z"⟩, aj_bc 2098, 7, (some (FieldType.boolean)), 1, aj_lk14, "DimShelfModel")
set_option maxRecDepth 100000 in
theorem aj_m279_at : aj_mt[279]? = some aj_m279 := rfl
theorem aj_d279 : aj_ctOK aj_c279 aj_m279.2.1 := by
  unfold aj_m279
  dsimp only
  exact aj_dk279
def aj_m280 : aj_M := (⟨"DimShelfModel", "place", "()I"⟩, aj_bc 2102, 1, (some (FieldType.int)), 0, aj_lk14, "DimShelfModel")
set_option maxRecDepth 100000 in
theorem aj_m280_at : aj_mt[280]? = some aj_m280 := rfl
theorem aj_d280 : aj_ctOK aj_c280 aj_m280.2.1 := by
  unfold aj_m280
  dsimp only
  exact aj_dk280
def aj_m281 : aj_M := (⟨"DimShelfModel", "learn", "()I"⟩, aj_bc 2106, 4, (some (FieldType.int)), 0, aj_lk14, "DimShelfModel")
set_option maxRecDepth 100000 in
theorem aj_m281_at : aj_mt[281]? = some aj_m281 := rfl
theorem aj_d281 : aj_ctOK aj_c281 aj_m281.2.1 := by
  unfold aj_m281
  dsimp only
  exact aj_dk281
def aj_m282 : aj_M := (⟨"DimShelfModel", "asks", "()Z"⟩, aj_bc 2110, 2, (some (FieldType.boolean)), 0, aj_lk14, "DimShelfModel")
set_option maxRecDepth 100000 in
theorem aj_m282_at : aj_mt[282]? = some aj_m282 := rfl
theorem aj_d282 : aj_ctOK aj_c282 aj_m282.2.1 := by
  unfold aj_m282
  dsimp only
  exact aj_dk282
def aj_m283 : aj_M := (⟨"DimShelfModel", "undo", "()Z"⟩, aj_bc 2114, 1, (some (FieldType.boolean)), 0, aj_lk14, "DimShelfModel")
set_option maxRecDepth 100000 in
theorem aj_m283_at : aj_mt[283]? = some aj_m283 := rfl
theorem aj_d283 : aj_ctOK aj_c283 aj_m283.2.1 := by
  unfold aj_m283
  dsimp only
  exact aj_dk283
def aj_m284 : aj_M := (⟨"DimShelfModel", "ask", "()I"⟩, aj_bc 2118, 3, (some (FieldType.int)), 0, aj_lk14, "DimShelfModel")
set_option maxRecDepth 100000 in
theorem aj_m284_at : aj_mt[284]? = some aj_m284 := rfl
theorem aj_d284 : aj_ctOK aj_c284 aj_m284.2.1 := by
  unfold aj_m284
  dsimp only
  exact aj_dk284
def aj_m285 : aj_M := (⟨"DimShelfModel", "why", "(I)I"⟩, aj_bc 2122, 5, (some (FieldType.int)), 1, aj_lk14, "DimShelfModel")
set_option maxRecDepth 100000 in
theorem aj_m285_at : aj_mt[285]? = some aj_m285 := rfl
theorem aj_d285 : aj_ctOK aj_c285 aj_m285.2.1 := by
  unfold aj_m285
  dsimp only
  exact aj_dk285
def aj_m286 : aj_M := (⟨"DimShelfModel", "chooses", "(I)Z"⟩, aj_bc 2126, 6, (some (FieldType.boolean)), 1, aj_lk14, "DimShelfModel")
set_option maxRecDepth 100000 in
theorem aj_m286_at : aj_mt[286]? = some aj_m286 := rfl
theorem aj_d286 : aj_ctOK aj_c286 aj_m286.2.1 := by
  unfold aj_m286
  dsimp only
  exact aj_dk286
def aj_m287 : aj_M := (⟨"DimShelfModel", "meetsAll", "(I)Z"⟩, aj_bc 2130, 4, (some (FieldType.boolean)), 1, aj_lk14, "DimShelfModel")
set_option maxRecDepth 100000 in
theorem aj_m287_at : aj_mt[287]? = some aj_m287 := rfl
theorem aj_d287 : aj_ctOK aj_c287 aj_m287.2.1 := by
  unfold aj_m287
  dsimp only
  exact aj_dk287
def aj_m288 : aj_M := (⟨"DimShelfModel", "value", "(II)I"⟩, aj_bc 2134, 4, (some (FieldType.int)), 2, aj_lk14, "DimShelfModel")
set_option maxRecDepth 100000 in
theorem aj_m288_at : aj_mt[288]? = some aj_m288 := rfl
theorem aj_d288 : aj_ctOK aj_c288 aj_m288.2.1 := by
  unfold aj_m288
  dsimp only
  exact aj_dk288
def aj_m289 : aj_M := (⟨"DimShelfModel", "worldOf", "(I)I"⟩, aj_bc 2138, 4, (some (FieldType.int)), 1, aj_lk14, "DimShelfModel")
set_option maxRecDepth 100000 in
theorem aj_m289_at : aj_mt[289]? = some aj_m289 := rfl
theorem aj_d289 : aj_ctOK aj_c289 aj_m289.2.1 := by
  unfold aj_m289
  dsimp only
  exact aj_dk289
def aj_m290 : aj_M := (⟨"DimShelfModel", "table", "(II)I"⟩, aj_bc 2143, 6, (some (FieldType.int)), 2, aj_lk14, "DimShelfModel")
set_option maxRecDepth 100000 in
theorem aj_m290_at : aj_mt[290]? = some aj_m290 := rfl
theorem aj_d290 : aj_ctOK aj_c290 aj_m290.2.1 := by
  unfold aj_m290
  dsimp only
  exact aj_dk290
def aj_m291 : aj_M := (⟨"DimShelfModel", "isTable", "(I)Z"⟩, aj_bc 2147, 2, (some (FieldType.boolean)), 1, aj_lk14, "DimShelfModel")
set_option maxRecDepth 100000 in
theorem aj_m291_at : aj_mt[291]? = some aj_m291 := rfl
theorem aj_d291 : aj_ctOK aj_c291 aj_m291.2.1 := by
  unfold aj_m291
  dsimp only
  exact aj_dk291
def aj_m292 : aj_M := (⟨"DimShelfModel", "sures", "(I)V"⟩, aj_bc 2151, 6, none, 1, aj_lk14, "DimShelfModel")
set_option maxRecDepth 100000 in
theorem aj_m292_at : aj_mt[292]? = some aj_m292 := rfl
theorem aj_d292 : aj_ctOK aj_c292 aj_m292.2.1 := by
  unfold aj_m292
  dsimp only
  exact aj_dk292
def aj_m293 : aj_M := (⟨"DimShelfModel", "isIn", "(IIII)Z"⟩, aj_bc 2155, 6, (some (FieldType.boolean)), 4, aj_lk14, "DimShelfModel")
set_option maxRecDepth 100000 in
theorem aj_m293_at : aj_mt[293]? = some aj_m293 := rfl
theorem aj_d293 : aj_ctOK aj_c293 aj_m293.2.1 := by
  unfold aj_m293
  dsimp only
  exact aj_dk293
def aj_m294 : aj_M := (⟨"DimShelfModel", "maybes", "(I)V"⟩, aj_bc 2159, 6, none, 1, aj_lk14, "DimShelfModel")
set_option maxRecDepth 100000 in
theorem aj_m294_at : aj_mt[294]? = some aj_m294 := rfl
theorem aj_d294 : aj_ctOK aj_c294 aj_m294.2.1 := by
  unfold aj_m294
  dsimp only
  exact aj_dk294
def aj_m295 : aj_M := (⟨"DimShelfModel", "sink", "(III)V"⟩, aj_bc 2163, 7, none, 3, aj_lk14, "DimShelfModel")
set_option maxRecDepth 100000 in
theorem aj_m295_at : aj_mt[295]? = some aj_m295 := rfl
theorem aj_d295 : aj_ctOK aj_c295 aj_m295.2.1 := by
  unfold aj_m295
  dsimp only
  exact aj_dk295
def aj_m296 : aj_M := (⟨"DimShelfModel", "comparePairs", "(III)I"⟩, aj_bc 2167, 4, (some (FieldType.int)), 3, aj_lk14, "DimShelfModel")
set_option maxRecDepth 100000 in
theorem aj_m296_at : aj_mt[296]? = some aj_m296 := rfl
theorem aj_d296 : aj_ctOK aj_c296 aj_m296.2.1 := by
  unfold aj_m296
  dsimp only
  exact aj_dk296
def aj_m297 : aj_M := (⟨"DimShelfModel", "term", "(IIII)I"⟩, aj_bc 2171, 6, (some (FieldType.int)), 4, aj_lk14, "DimShelfModel")
set_option maxRecDepth 100000 in
theorem aj_m297_at : aj_mt[297]? = some aj_m297 := rfl
theorem aj_d297 : aj_ctOK aj_c297 aj_m297.2.1 := by
  unfold aj_m297
  dsimp only
  exact aj_dk297
def aj_m298 : aj_M := (⟨"DimShelfModel", "isRow", "(II)Z"⟩, aj_bc 2175, 3, (some (FieldType.boolean)), 2, aj_lk14, "DimShelfModel")
set_option maxRecDepth 100000 in
theorem aj_m298_at : aj_mt[298]? = some aj_m298 := rfl
theorem aj_d298 : aj_ctOK aj_c298 aj_m298.2.1 := by
  unfold aj_m298
  dsimp only
  exact aj_dk298
def aj_m299 : aj_M := (⟨"DimShelfModel", "many", "(II)I"⟩, aj_bc 2179, 5, (some (FieldType.int)), 2, aj_lk14, "DimShelfModel")
set_option maxRecDepth 100000 in
theorem aj_m299_at : aj_mt[299]? = some aj_m299 := rfl
theorem aj_d299 : aj_ctOK aj_c299 aj_m299.2.1 := by
  unfold aj_m299
  dsimp only
  exact aj_dk299
def aj_m300 : aj_M := (⟨"DimShelfModel", "holds", "(III)Z"⟩, aj_bc 2183, 5, (some (FieldType.boolean)), 3, aj_lk14, "DimShelfModel")
set_option maxRecDepth 100000 in
theorem aj_m300_at : aj_mt[300]? = some aj_m300 := rfl
theorem aj_d300 : aj_ctOK aj_c300 aj_m300.2.1 := by
  unfold aj_m300
  dsimp only
  exact aj_dk300
def aj_m301 : aj_M := (⟨"DimShelfModel", "size", "(II)I"⟩, aj_bc 2187, 4, (some (FieldType.int)), 2, aj_lk14, "DimShelfModel")
set_option maxRecDepth 100000 in
theorem aj_m301_at : aj_mt[301]? = some aj_m301 := rfl
theorem aj_d301 : aj_ctOK aj_c301 aj_m301.2.1 := by
  unfold aj_m301
  dsimp only
  exact aj_dk301
def aj_m302 : aj_M := (⟨"DimShelfModel", "cell", "(IIII)I"⟩, aj_bc 2191, 6, (some (FieldType.int)), 4, aj_lk14, "DimShelfModel")
set_option maxRecDepth 100000 in
theorem aj_m302_at : aj_mt[302]? = some aj_m302 := rfl
theorem aj_d302 : aj_ctOK aj_c302 aj_m302.2.1 := by
  unfold aj_m302
  dsimp only
  exact aj_dk302
def aj_m303 : aj_M := (⟨"DimShelfModel", "sure", "(III)I"⟩, aj_bc 2195, 4, (some (FieldType.int)), 3, aj_lk14, "DimShelfModel")
set_option maxRecDepth 100000 in
theorem aj_m303_at : aj_mt[303]? = some aj_m303 := rfl
theorem aj_d303 : aj_ctOK aj_c303 aj_m303.2.1 := by
  unfold aj_m303
  dsimp only
  exact aj_dk303
def aj_m304 : aj_M := (⟨"DimShelfModel", "maybe", "(III)I"⟩, aj_bc 2199, 4, (some (FieldType.int)), 3, aj_lk14, "DimShelfModel")
set_option maxRecDepth 100000 in
theorem aj_m304_at : aj_mt[304]? = some aj_m304 := rfl
theorem aj_d304 : aj_ctOK aj_c304 aj_m304.2.1 := by
  unfold aj_m304
  dsimp only
  exact aj_dk304
def aj_m305 : aj_M := (⟨"DimShelfModel", "often", "(II)I"⟩, aj_bc 2203, 6, (some (FieldType.int)), 2, aj_lk14, "DimShelfModel")
set_option maxRecDepth 100000 in
theorem aj_m305_at : aj_mt[305]? = some aj_m305 := rfl
theorem aj_d305 : aj_ctOK aj_c305 aj_m305.2.1 := by
  unfold aj_m305
  dsimp only
  exact aj_dk305
def aj_m306 : aj_M := (⟨"DimShelfModel", "same", "(II)I"⟩, aj_bc 2207, 7, (some (FieldType.int)), 2, aj_lk14, "DimShelfModel")
set_option maxRecDepth 100000 in
theorem aj_m306_at : aj_mt[306]? = some aj_m306 := rfl
theorem aj_d306 : aj_ctOK aj_c306 aj_m306.2.1 := by
  unfold aj_m306
  dsimp only
  exact aj_dk306
def aj_m307 : aj_M := (⟨"DimShelfModel", "isSame", "(III)Z"⟩, aj_bc 2211, 7, (some (FieldType.boolean)), 3, aj_lk14, "DimShelfModel")
set_option maxRecDepth 100000 in
theorem aj_m307_at : aj_mt[307]? = some aj_m307 := rfl
theorem aj_d307 : aj_ctOK aj_c307 aj_m307.2.1 := by
  unfold aj_m307
  dsimp only
  exact aj_dk307
def aj_m308 : aj_M := (⟨"DimShelfModel", "count", "(I)I"⟩, aj_bc 2215, 2, (some (FieldType.int)), 1, aj_lk14, "DimShelfModel")
set_option maxRecDepth 100000 in
theorem aj_m308_at : aj_mt[308]? = some aj_m308 := rfl
theorem aj_d308 : aj_ctOK aj_c308 aj_m308.2.1 := by
  unfold aj_m308
  dsimp only
  exact aj_dk308
def aj_m309 : aj_M := (⟨"DimShelfModel", "holding", "()I"⟩, aj_bc 2219, 3, (some (FieldType.int)), 0, aj_lk14, "DimShelfModel")
set_option maxRecDepth 100000 in
theorem aj_m309_at : aj_mt[309]? = some aj_m309 := rfl
theorem aj_d309 : aj_ctOK aj_c309 aj_m309.2.1 := by
  unfold aj_m309
  dsimp only
  exact aj_dk309
