/-! WHAT THE TABLES SAY OF EACH METHOD (printed by gen3.py) 3 -/
theorem cw_167 : ai_mok ft_W cy_167 := ft_mok_ok (gs := [138, 1484]) (by decide +kernel)
theorem pm_167 : ct_G cm_167 := ct_G0 cw_167 ck_167 rfl
theorem ck_168 : ct_S cy_168 0 ct_168 := ft_tree_ok (gs := [1633]) (by decide +kernel)
theorem cw_168 : ai_mok ft_W cy_168 := ft_mok_ok (gs := [138, 1836]) (by decide +kernel)
theorem pm_168 : ct_G cm_168 := ct_G0 cw_168 ck_168 rfl
theorem ck_169 : ct_S cy_169 0 ct_169 := ft_tree_ok (gs := [1633]) (by decide +kernel)
theorem cw_169 : ai_mok ft_W cy_169 := ft_mok_ok (gs := [138, 1855]) (by decide +kernel)
theorem pm_169 : ct_G cm_169 := ct_G0 cw_169 ck_169 rfl
theorem ck_170 : ct_S cy_170 0 ct_170 := ft_tree_ok (gs := [1633]) (by decide +kernel)
theorem cw_170 : ai_mok ft_W cy_170 := ft_mok_ok (gs := [138, 2140]) (by decide +kernel)
theorem pm_170 : ct_G cm_170 := ct_G0 cw_170 ck_170 rfl
theorem ck_171 : ct_S cy_171 0 ct_171 := ft_tree_ok (gs := []) (by decide +kernel)
theorem cw_171 : ai_mok ft_W cy_171 := ft_mok_ok (gs := [138, 1851]) (by decide +kernel)
theorem pm_171 : ct_G cm_171 := ct_G0 cw_171 ck_171 rfl
theorem ck_172 : ct_S cy_172 0 ct_172 := ft_tree_ok (gs := [1634, 353, 0]) (by decide +kernel)
theorem cw_172 : ai_mok ft_W cy_172 := ft_mok_ok (gs := [138, 1848]) (by decide +kernel)
theorem pm_172 : ct_G cm_172 := ct_G0 cw_172 ck_172 rfl
theorem ck_173 : ct_S cy_173 0 ct_173 := ft_tree_ok (gs := [1636, 351, 0]) (by decide +kernel)
theorem cw_173 : ai_mok ft_W cy_173 := ft_mok_ok (gs := [138, 1891]) (by decide +kernel)
theorem pm_173 : ct_G cm_173 := ct_G0 cw_173 ck_173 rfl
theorem ck_174 : ct_S cy_174 0 ct_174 := ft_tree_ok (gs := [1988, 0]) (by decide +kernel)
theorem cw_174 : ai_mok ft_W cy_174 := ft_mok_ok (gs := [138, 1989]) (by decide +kernel)
theorem pm_174 : ct_G cm_174 := ct_G0 cw_174 ck_174 rfl
theorem ck_175 : ct_S cy_175 1 ct_175 := ft_tree_ok (gs := [1633, 0]) (by decide +kernel)
theorem cw_175 : ai_mok ft_W cy_175 := ft_mok_ok (gs := [138, 1840]) (by decide +kernel)
theorem pm_175 : ct_G cm_175 := ct_G0 cw_175 ck_175 rfl
theorem ck_176 : ct_S cy_176 1 ct_176 := ft_tree_ok (gs := [73, 0, 1558, 350, 1, 4, 1]) (by decide +kernel)
theorem cw_176 : ai_mok ft_W cy_176 := ft_mok_ok (gs := [138, 1844]) (by decide +kernel)
theorem pm_176 : ct_G cm_176 := ct_G0 cw_176 ck_176 rfl
theorem ck_178 : ct_S cy_178 1 ct_178 := ft_tree_ok (gs := [73, 0, 1558, 350, 1, 4, 1]) (by decide +kernel)
theorem cw_178 : ai_mok ft_W cy_178 := ft_mok_ok (gs := [138, 1859]) (by decide +kernel)
theorem pm_178 : ct_G cm_178 := ct_G0 cw_178 ck_178 rfl
theorem ck_179 : ct_S cy_179 0 ct_179 := ft_tree_ok (gs := [1637, 350, 0]) (by decide +kernel)
theorem cw_179 : ai_mok ft_W cy_179 := ft_mok_ok (gs := [138, 1875]) (by decide +kernel)
theorem pm_179 : ct_G cm_179 := ct_G0 cw_179 ck_179 rfl
theorem ck_180 : ct_S cy_180 3 ct_180 := ft_tree_ok (gs := [1633, 3, 15, 0, 0, 332, 0]) (by decide +kernel)
theorem cw_180 : ai_mok ft_W cy_180 := ft_mok_ok (gs := [138, 1867]) (by decide +kernel)
theorem pm_180 : ct_G cm_180 := ct_G0 cw_180 ck_180 rfl
theorem ck_181 : ct_S cy_181 1 ct_181 := ft_tree_ok (gs := [74, 1, 1556, 357, 1, 17, 1]) (by decide +kernel)
theorem cw_181 : ai_mok ft_W cy_181 := ft_mok_ok (gs := [138, 1871]) (by decide +kernel)
theorem pm_181 : ct_G cm_181 := ct_G0 cw_181 ck_181 rfl
theorem ck_183 : ct_S cy_183 1 ct_183 := ft_tree_ok (gs := [74, 1, 1556, 357, 1, 17, 1]) (by decide +kernel)
theorem cw_183 : ai_mok ft_W cy_183 := ft_mok_ok (gs := [138, 1879]) (by decide +kernel)
theorem pm_183 : ct_G cm_183 := ct_G0 cw_183 ck_183 rfl
theorem ck_184 : ct_S cy_184 3 ct_184 := ft_tree_ok (gs := [73, 0, 3, 1554, 350, 1, 4, 1, 33, 1]) (by decide +kernel)
theorem cw_184 : ai_mok ft_W cy_184 := ft_mok_ok (gs := [138, 1887]) (by decide +kernel)
theorem pm_184 : ct_G cm_184 := ct_G0 cw_184 ck_184 rfl
theorem ck_185 : ct_S cy_185 3 ct_185 := ft_tree_ok (gs := [1633, 23, 0]) (by decide +kernel)
theorem cw_185 : ai_mok ft_W cy_185 := ft_mok_ok (gs := [138, 1895]) (by decide +kernel)
theorem pm_185 : ct_G cm_185 := ct_G0 cw_185 ck_185 rfl
theorem ck_204 : ct_S cy_204 1 ct_204 := ft_tree_ok (gs := [74, 3, 1554, 357, 1, 33, 1]) (by decide +kernel)
theorem cw_204 : ai_mok ft_W cy_204 := ft_mok_ok (gs := [138, 1899]) (by decide +kernel)
theorem pm_204 : ct_G cm_204 := ct_G0 cw_204 ck_204 rfl
theorem ck_205 : ct_S cy_205 0 ct_205 := ft_tree_ok (gs := [1633, 34]) (by decide +kernel)
theorem cw_205 : ai_mok ft_W cy_205 := ft_mok_ok (gs := [138, 1982]) (by decide +kernel)
theorem pm_205 : ct_G cm_205 := ct_G0 cw_205 ck_205 rfl
theorem ck_209 : ct_S cy_209 2 ct_209 := ft_tree_ok (gs := [1634]) (by decide +kernel)
theorem cw_209 : ai_mok ft_W cy_209 := ft_mok_ok (gs := [138, 1993]) (by decide +kernel)
theorem pm_209 : ct_G cm_209 := ct_G0 cw_209 ck_209 rfl
theorem ck_210 : ct_S cy_210 2 ct_210 := ft_tree_ok (gs := [74, 3, 1554, 357, 1, 33, 1]) (by decide +kernel)
theorem cw_210 : ai_mok ft_W cy_210 := ft_mok_ok (gs := [138, 1986]) (by decide +kernel)
theorem pm_210 : ct_G cm_210 := ct_G0 cw_210 ck_210 rfl
theorem ck_211 : ct_S cy_211 2 ct_211 := ft_tree_ok (gs := [1633, 44, 0, 0, 307, 0]) (by decide +kernel)
theorem cw_211 : ai_mok ft_W cy_211 := ft_mok_ok (gs := [138, 2009]) (by decide +kernel)
theorem pm_211 : ct_G cm_211 := ct_G0 cw_211 ck_211 rfl
theorem ck_212 : ct_S cy_212 0 ct_212 := ft_tree_ok (gs := []) (by decide +kernel)
theorem cw_212 : ai_mok ft_W cy_212 := ft_mok_ok (gs := [138, 2021]) (by decide +kernel)
theorem pm_212 : ct_G cm_212 := ct_G0 cw_212 ck_212 rfl
theorem ck_214 : ct_S cy_214 5 ct_214 := ft_tree_ok (gs := [99, 1534, 0, 45, 1, 473, 1]) (by decide +kernel)
theorem cw_214 : ai_mok ft_W cy_214 := ft_mok_ok (gs := [138, 2017]) (by decide +kernel)
theorem pm_214 : ct_G cm_214 := ct_G0 cw_214 ck_214 rfl
theorem ck_215 : ct_S cy_215 2 ct_215 := ft_tree_ok (gs := [98, 1536, 517, 1]) (by decide +kernel)
theorem cw_215 : ai_mok ft_W cy_215 := ft_mok_ok (gs := [138, 2040]) (by decide +kernel)
theorem pm_215 : ct_G cm_215 := ct_G0 cw_215 ck_215 rfl
theorem ck_216 : ct_S cy_216 2 ct_216 := ft_tree_ok (gs := [74, 1558, 1, 352, 0, 1, 1]) (by decide +kernel)
theorem cw_216 : ai_mok ft_W cy_216 := ft_mok_ok (gs := [138, 2013]) (by decide +kernel)
theorem pm_216 : ct_G cm_216 := ct_G0 cw_216 ck_216 rfl
theorem ck_217 : ct_S cy_217 4 ct_217 := ft_tree_ok (gs := [1635, 42, 2]) (by decide +kernel)
theorem cw_217 : ai_mok ft_W cy_217 := ft_mok_ok (gs := [138, 2060]) (by decide +kernel)
theorem pm_217 : ct_G cm_217 := ct_G0 cw_217 ck_217 rfl
theorem ck_218 : ct_S cy_218 3 ct_218 := ft_tree_ok (gs := [107, 1528, 54, 504, 1]) (by decide +kernel)
theorem cw_218 : ai_mok ft_W cy_218 := ft_mok_ok (gs := [138, 2056]) (by decide +kernel)
theorem pm_218 : ct_G cm_218 := ct_G0 cw_218 ck_218 rfl
theorem ck_221 : ct_S cy_221 4 ct_221 := ft_tree_ok (gs := [95, 10, 1527, 1, 44, 9, 0, 436, 1, 60, 1]) (by decide +kernel)
theorem cw_221 : ai_mok ft_W cy_221 := ft_mok_ok (gs := [138, 2044]) (by decide +kernel)
theorem pm_221 : ct_G cm_221 := ct_G0 cw_221 ck_221 rfl
theorem ck_222 : ct_S cy_222 2 ct_222 := ft_tree_ok (gs := [1636]) (by decide +kernel)
theorem cw_222 : ai_mok ft_W cy_222 := ft_mok_ok (gs := [138, 2036]) (by decide +kernel)
theorem pm_222 : ct_G cm_222 := ct_G0 cw_222 ck_222 rfl
theorem ck_223 : ct_S cy_223 3 ct_223 := ft_tree_ok (gs := [74, 26, 0, 0, 1529, 2, 57, 0, 295, 1, 132, 0, 44, 1, 1, 1, 1, 1]) (by decide +kernel)
theorem cw_223 : ai_mok ft_W cy_223 := ft_mok_ok (gs := [138, 2032]) (by decide +kernel)
theorem pm_223 : ct_G cm_223 := ct_G0 cw_223 ck_223 rfl
theorem ck_224 : ct_S cy_224 1 ct_224 := ft_tree_ok (gs := [74, 3, 1554, 357, 1, 33, 1]) (by decide +kernel)
theorem cw_224 : ai_mok ft_W cy_224 := ft_mok_ok (gs := [138, 2064]) (by decide +kernel)
theorem pm_224 : ct_G cm_224 := ct_G0 cw_224 ck_224 rfl
theorem ck_225 : ct_S cy_225 2 ct_225 := ft_tree_ok (gs := [1636]) (by decide +kernel)
theorem cw_225 : ai_mok ft_W cy_225 := ft_mok_ok (gs := [138, 2072]) (by decide +kernel)
theorem pm_225 : ct_G cm_225 := ct_G0 cw_225 ck_225 rfl
theorem ck_226 : ct_S cy_226 4 ct_226 := ft_tree_ok (gs := [1636]) (by decide +kernel)
theorem cw_226 : ai_mok ft_W cy_226 := ft_mok_ok (gs := [138, 2080]) (by decide +kernel)
theorem pm_226 : ct_G cm_226 := ct_G0 cw_226 ck_226 rfl
theorem ck_227 : ct_S cy_227 2 ct_227 := ft_tree_ok (gs := [149, 1015, 0, 469, 417]) (by decide +kernel)
theorem cw_227 : ai_mok ft_W cy_227 := ft_mok_ok (gs := [138, 2084]) (by decide +kernel)
theorem pm_227 : ct_G cm_227 := ct_G0 cw_227 ck_227 rfl
theorem ck_228 : ct_S cy_228 4 ct_228 := ft_tree_ok (gs := [101, 8, 0, 1585, 0, 0, 0, 471, 1, 41, 1, 1, 1]) (by decide +kernel)
theorem cw_228 : ai_mok ft_W cy_228 := ft_mok_ok (gs := [138, 2076]) (by decide +kernel)
theorem pm_228 : ct_G cm_228 := ct_G0 cw_228 ck_228 rfl
theorem ck_229 : ct_S cy_229 5 ct_229 := ft_tree_ok (gs := [74, 26, 0, 0, 4, 0, 1, 0, 1520, 0, 1, 43, 16, 0, 0, 0, 0, 0, 0, 0, 6, 279, 1, 178, 1, 1, 1, 1, 1, 25, 1, 1, 1, 5, 1, 1, 1]) (by decide +kernel)
