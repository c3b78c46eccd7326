theorem ddX6_init : yX6_init.cls ≠ "java/lang/invoke/MethodHandle" ∧ yX6_init.cls ≠ "java/lang/invoke/VarHandle" ∧ (parseMethodDescriptor yX6_init.desc).map (fun d => d.parameters.length) = some 0 := by decide +kernel
abbrev rmX6_init : Room := { frames := 3, cells := 172, slots := 5155, locals := 61 }
set_option maxRecDepth 100000 in
def fX6_init (v0 : Nat) (L : List (Nat × Nat)) (σ : zS) : Option zLS :=
  znw L σ (0, 3) (fun (x1 : Nat) (L2 : List (Nat × Nat)) (σ3 : zS) => znw L2 σ3 (0, 1) (fun (x4 : Nat) (L5 : List (Nat × Nat)) (σ6 : zS) => zb (fX1_init x4 L5 σ6) (fun (L7 : List (Nat × Nat)) (σ8 : zS) => zb (fX3_init x1 x4 L7 σ8) (fun (L9 : List (Nat × Nat)) (σ10 : zS) => zQ L9 v0 (0, 6) (zQ L9 x1 (0, 3) (bnd (zR σ10 v0 0 x1) (fun (σ11 : zS) => znw L9 σ11 (0, 3) (fun (x12 : Nat) (L13 : List (Nat × Nat)) (σ14 : zS) => zQ L13 v0 (0, 6) (zQ L13 (σ14.2 v0 0) (0, 3) (bnd (σ14.2 v0 0) (fun (q15 : Nat) => zQ L13 q15 (0, 3) (zQ L13 (σ14.2 q15 1) (0, 1) (bnd (σ14.2 q15 1) (fun (q16 : Nat) => zb (fX3_init x12 q16 L13 σ14) (fun (L17 : List (Nat × Nat)) (σ18 : zS) => zQ L17 v0 (0, 6) (zQ L17 x12 (0, 3) (bnd (zR σ18 v0 1 x12) (fun (σ19 : zS) => zQ L17 v0 (0, 6) (bnd (zI σ19 v0 2 (1 : Int32)) (fun (σ20 : zS) => znw L17 σ20 (3, 20) (fun (x21 : Nat) (L22 : List (Nat × Nat)) (σ23 : zS) => zQ L22 v0 (0, 6) (zQ L22 x21 (3, 20) (bnd (zR σ23 v0 3 x21) (fun (σ24 : zS) => zQ L22 v0 (0, 6) (zQ L22 (σ24.2 v0 3) (3, 20) (bnd (σ24.2 v0 3) (fun (q25 : Nat) => znw L22 σ24 (0, 3) (fun (x26 : Nat) (L27 : List (Nat × Nat)) (σ28 : zS) => znw L27 σ28 (0, 1) (fun (x29 : Nat) (L30 : List (Nat × Nat)) (σ31 : zS) => zb (fX1_init x29 L30 σ31) (fun (L32 : List (Nat × Nat)) (σ33 : zS) => zb (fX3_init x26 x29 L32 σ33) (fun (L34 : List (Nat × Nat)) (σ35 : zS) => zQ L34 q25 (0 + 3, 20) (zQ L34 x26 (0, 0 + 3) (zX (0 : Int32) 20 (bnd (zR σ35 q25 ((0 : Int32)).toNatClampNeg x26) (fun (σ36 : zS) => zQ L34 v0 (0, 6) (zQ L34 (σ36.2 v0 3) (3, 20) (bnd (σ36.2 v0 3) (fun (q37 : Nat) => znw L34 σ36 (0, 3) (fun (x38 : Nat) (L39 : List (Nat × Nat)) (σ40 : zS) => znw L39 σ40 (0, 1) (fun (x41 : Nat) (L42 : List (Nat × Nat)) (σ43 : zS) => zb (fX1_init x41 L42 σ43) (fun (L44 : List (Nat × Nat)) (σ45 : zS) => zb (fX3_init x38 x41 L44 σ45) (fun (L46 : List (Nat × Nat)) (σ47 : zS) => zQ L46 q37 (0 + 3, 20) (zQ L46 x38 (0, 0 + 3) (zX (1 : Int32) 20 (bnd (zR σ47 q37 ((1 : Int32)).toNatClampNeg x38) (fun (σ48 : zS) => zQ L46 v0 (0, 6) (zQ L46 (σ48.2 v0 3) (3, 20) (bnd (σ48.2 v0 3) (fun (q49 : Nat) => znw L46 σ48 (0, 3) (fun (x50 : Nat) (L51 : List (Nat × Nat)) (σ52 : zS) => znw L51 σ52 (0, 1) (fun (x53 : Nat) (L54 : List (Nat × Nat)) (σ55 : zS) => zb (fX1_init x53 L54 σ55) (fun (L56 : List (Nat × Nat)) (σ57 : zS) => zb (fX3_init x50 x53 L56 σ57) (fun (L58 : List (Nat × Nat)) (σ59 : zS) => zQ L58 q49 (0 + 3, 20) (zQ L58 x50 (0, 0 + 3) (zX (2 : Int32) 20 (bnd (zR σ59 q49 ((2 : Int32)).toNatClampNeg x50) (fun (σ60 : zS) => zQ L58 v0 (0, 6) (zQ L58 (σ60.2 v0 3) (3, 20) (bnd (σ60.2 v0 3) (fun (q61 : Nat) => znw L58 σ60 (0, 3) (fun (x62 : Nat) (L63 : List (Nat × Nat)) (σ64 : zS) => znw L63 σ64 (0, 1) (fun (x65 : Nat) (L66 : List (Nat × Nat)) (σ67 : zS) => zb (fX1_init x65 L66 σ67) (fun (L68 : List (Nat × Nat)) (σ69 : zS) => zb (fX3_init x62 x65 L68 σ69) (fun (L70 : List (Nat × Nat)) (σ71 : zS) => zQ L70 q61 (0 + 3, 20) (zQ L70 x62 (0, 0 + 3) (zX (3 : Int32) 20 (bnd (zR σ71 q61 ((3 : Int32)).toNatClampNeg x62) (fun (σ72 : zS) => zQ L70 v0 (0, 6) (zQ L70 (σ72.2 v0 3) (3, 20) (bnd (σ72.2 v0 3) (fun (q73 : Nat) => znw L70 σ72 (0, 3) (fun (x74 : Nat) (L75 : List (Nat × Nat)) (σ76 : zS) => znw L75 σ76 (0, 1) (fun (x77 : Nat) (L78 : List (Nat × Nat)) (σ79 : zS) => zb (fX1_init x77 L78 σ79) (fun (L80 : List (Nat × Nat)) (σ81 : zS) => zb (fX3_init x74 x77 L80 σ81) (fun (L82 : List (Nat × Nat)) (σ83 : zS) => zQ L82 q73 (0 + 3, 20) (zQ L82 x74 (0, 0 + 3) (zX (4 : Int32) 20 (bnd (zR σ83 q73 ((4 : Int32)).toNatClampNeg x74) (fun (σ84 : zS) => zQ L82 v0 (0, 6) (zQ L82 (σ84.2 v0 3) (3, 20) (bnd (σ84.2 v0 3) (fun (q85 : Nat) => znw L82 σ84 (0, 3) (fun (x86 : Nat) (L87 : List (Nat × Nat)) (σ88 : zS) => znw L87 σ88 (0, 1) (fun (x89 : Nat) (L90 : List (Nat × Nat)) (σ91 : zS) => zb (fX1_init x89 L90 σ91) (fun (L92 : List (Nat × Nat)) (σ93 : zS) => zb (fX3_init x86 x89 L92 σ93) (fun (L94 : List (Nat × Nat)) (σ95 : zS) => zQ L94 q85 (0 + 3, 20) (zQ L94 x86 (0, 0 + 3) (zX (5 : Int32) 20 (bnd (zR σ95 q85 ((5 : Int32)).toNatClampNeg x86) (fun (σ96 : zS) => zQ L94 v0 (0, 6) (zQ L94 (σ96.2 v0 3) (3, 20) (bnd (σ96.2 v0 3) (fun (q97 : Nat) => znw L94 σ96 (0, 3) (fun (x98 : Nat) (L99 : List (Nat × Nat)) (σ100 : zS) => znw L99 σ100 (0, 1) (fun (x101 : Nat) (L102 : List (Nat × Nat)) (σ103 : zS) => zb (fX1_init x101 L102 σ103) (fun (L104 : List (Nat × Nat)) (σ105 : zS) => zb (fX3_init x98 x101 L104 σ105) (fun (L106 : List (Nat × Nat)) (σ107 : zS) => zQ L106 q97 (0 + 3, 20) (zQ L106 x98 (0, 0 + 3) (zX (6 : Int32) 20 (bnd (zR σ107 q97 ((6 : Int32)).toNatClampNeg x98) (fun (σ108 : zS) => zQ L106 v0 (0, 6) (zQ L106 (σ108.2 v0 3) (3, 20) (bnd (σ108.2 v0 3) (fun (q109 : Nat) => znw L106 σ108 (0, 3) (fun (x110 : Nat) (L111 : List (Nat × Nat)) (σ112 : zS) => znw L111 σ112 (0, 1) (fun (x113 : Nat) (L114 : List (Nat × Nat)) (σ115 : zS) => zb (fX1_init x113 L114 σ115) (fun (L116 : List (Nat × Nat)) (σ117 : zS) => zb (fX3_init x110 x113 L116 σ117) (fun (L118 : List (Nat × Nat)) (σ119 : zS) => zQ L118 q109 (0 + 3, 20) (zQ L118 x110 (0, 0 + 3) (zX (7 : Int32) 20 (bnd (zR σ119 q109 ((7 : Int32)).toNatClampNeg x110) (fun (σ120 : zS) => zQ L118 v0 (0, 6) (zQ L118 (σ120.2 v0 3) (3, 20) (bnd (σ120.2 v0 3) (fun (q121 : Nat) => znw L118 σ120 (0, 3) (fun (x122 : Nat) (L123 : List (Nat × Nat)) (σ124 : zS) => znw L123 σ124 (0, 1) (fun (x125 : Nat) (L126 : List (Nat × Nat)) (σ127 : zS) => zb (fX1_init x125 L126 σ127) (fun (L128 : List (Nat × Nat)) (σ129 : zS) => zb (fX3_init x122 x125 L128 σ129) (fun (L130 : List (Nat × Nat)) (σ131 : zS) => zQ L130 q121 (0 + 3, 20) (zQ L130 x122 (0, 0 + 3) (zX (8 : Int32) 20 (bnd (zR σ131 q121 ((8 : Int32)).toNatClampNeg x122) (fun (σ132 : zS) => zQ L130 v0 (0, 6) (zQ L130 (σ132.2 v0 3) (3, 20) (bnd (σ132.2 v0 3) (fun (q133 : Nat) => znw L130 σ132 (0, 3) (fun (x134 : Nat) (L135 : List (Nat × Nat)) (σ136 : zS) => znw L135 σ136 (0, 1) (fun (x137 : Nat) (L138 : List (Nat × Nat)) (σ139 : zS) => zb (fX1_init x137 L138 σ139) (fun (L140 : List (Nat × Nat)) (σ141 : zS) => zb (fX3_init x134 x137 L140 σ141) (fun (L142 : List (Nat × Nat)) (σ143 : zS) => zQ L142 q133 (0 + 3, 20) (zQ L142 x134 (0, 0 + 3) (zX (9 : Int32) 20 (bnd (zR σ143 q133 ((9 : Int32)).toNatClampNeg x134) (fun (σ144 : zS) => zQ L142 v0 (0, 6) (zQ L142 (σ144.2 v0 3) (3, 20) (bnd (σ144.2 v0 3) (fun (q145 : Nat) => znw L142 σ144 (0, 3) (fun (x146 : Nat) (L147 : List (Nat × Nat)) (σ148 : zS) => znw L147 σ148 (0, 1) (fun (x149 : Nat) (L150 : List (Nat × Nat)) (σ151 : zS) => zb (fX1_init x149 L150 σ151) (fun (L152 : List (Nat × Nat)) (σ153 : zS) => zb (fX3_init x146 x149 L152 σ153) (fun (L154 : List (Nat × Nat)) (σ155 : zS) => zQ L154 q145 (0 + 3, 20) (zQ L154 x146 (0, 0 + 3) (zX (10 : Int32) 20 (bnd (zR σ155 q145 ((10 : Int32)).toNatClampNeg x146) (fun (σ156 : zS) => zQ L154 v0 (0, 6) (zQ L154 (σ156.2 v0 3) (3, 20) (bnd (σ156.2 v0 3) (fun (q157 : Nat) => znw L154 σ156 (0, 3) (fun (x158 : Nat) (L159 : List (Nat × Nat)) (σ160 : zS) => znw L159 σ160 (0, 1) (fun (x161 : Nat) (L162 : List (Nat × Nat)) (σ163 : zS) => zb (fX1_init x161 L162 σ163) (fun (L164 : List (Nat × Nat)) (σ165 : zS) => zb (fX3_init x158 x161 L164 σ165) (fun (L166 : List (Nat × Nat)) (σ167 : zS) => zQ L166 q157 (0 + 3, 20) (zQ L166 x158 (0, 0 + 3) (zX (11 : Int32) 20 (bnd (zR σ167 q157 ((11 : Int32)).toNatClampNeg x158) (fun (σ168 : zS) => zQ L166 v0 (0, 6) (zQ L166 (σ168.2 v0 3) (3, 20) (bnd (σ168.2 v0 3) (fun (q169 : Nat) => znw L166 σ168 (0, 3) (fun (x170 : Nat) (L171 : List (Nat × Nat)) (σ172 : zS) => znw L171 σ172 (0, 1) (fun (x173 : Nat) (L174 : List (Nat × Nat)) (σ175 : zS) => zb (fX1_init x173 L174 σ175) (fun (L176 : List (Nat × Nat)) (σ177 : zS) => zb (fX3_init x170 x173 L176 σ177) (fun (L178 : List (Nat × Nat)) (σ179 : zS) => zQ L178 q169 (0 + 3, 20) (zQ L178 x170 (0, 0 + 3) (zX (12 : Int32) 20 (bnd (zR σ179 q169 ((12 : Int32)).toNatClampNeg x170) (fun (σ180 : zS) => zQ L178 v0 (0, 6) (zQ L178 (σ180.2 v0 3) (3, 20) (bnd (σ180.2 v0 3) (fun (q181 : Nat) => znw L178 σ180 (0, 3) (fun (x182 : Nat) (L183 : List (Nat × Nat)) (σ184 : zS) => znw L183 σ184 (0, 1) (fun (x185 : Nat) (L186 : List (Nat × Nat)) (σ187 : zS) => zb (fX1_init x185 L186 σ187) (fun (L188 : List (Nat × Nat)) (σ189 : zS) => zb (fX3_init x182 x185 L188 σ189) (fun (L190 : List (Nat × Nat)) (σ191 : zS) => zQ L190 q181 (0 + 3, 20) (zQ L190 x182 (0, 0 + 3) (zX (13 : Int32) 20 (bnd (zR σ191 q181 ((13 : Int32)).toNatClampNeg x182) (fun (σ192 : zS) => zQ L190 v0 (0, 6) (zQ L190 (σ192.2 v0 3) (3, 20) (bnd (σ192.2 v0 3) (fun (q193 : Nat) => znw L190 σ192 (0, 3) (fun (x194 : Nat) (L195 : List (Nat × Nat)) (σ196 : zS) => znw L195 σ196 (0, 1) (fun (x197 : Nat) (L198 : List (Nat × Nat)) (σ199 : zS) => zb (fX1_init x197 L198 σ199) (fun (L200 : List (Nat × Nat)) (σ201 : zS) => zb (fX3_init x194 x197 L200 σ201) (fun (L202 : List (Nat × Nat)) (σ203 : zS) => zQ L202 q193 (0 + 3, 20) (zQ L202 x194 (0, 0 + 3) (zX (14 : Int32) 20 (bnd (zR σ203 q193 ((14 : Int32)).toNatClampNeg x194) (fun (σ204 : zS) => zQ L202 v0 (0, 6) (zQ L202 (σ204.2 v0 3) (3, 20) (bnd (σ204.2 v0 3) (fun (q205 : Nat) => znw L202 σ204 (0, 3) (fun (x206 : Nat) (L207 : List (Nat × Nat)) (σ208 : zS) => znw L207 σ208 (0, 1) (fun (x209 : Nat) (L210 : List (Nat × Nat)) (σ211 : zS) => zb (fX1_init x209 L210 σ211) (fun (L212 : List (Nat × Nat)) (σ213 : zS) => zb (fX3_init x206 x209 L212 σ213) (fun (L214 : List (Nat × Nat)) (σ215 : zS) => zQ L214 q205 (0 + 3, 20) (zQ L214 x206 (0, 0 + 3) (zX (15 : Int32) 20 (bnd (zR σ215 q205 ((15 : Int32)).toNatClampNeg x206) (fun (σ216 : zS) => zQ L214 v0 (0, 6) (zQ L214 (σ216.2 v0 3) (3, 20) (bnd (σ216.2 v0 3) (fun (q217 : Nat) => znw L214 σ216 (0, 3) (fun (x218 : Nat) (L219 : List (Nat × Nat)) (σ220 : zS) => znw L219 σ220 (0, 1) (fun (x221 : Nat) (L222 : List (Nat × Nat)) (σ223 : zS) => zb (fX1_init x221 L222 σ223) (fun (L224 : List (Nat × Nat)) (σ225 : zS) => zb (fX3_init x218 x221 L224 σ225) (fun (L226 : List (Nat × Nat)) (σ227 : zS) => zQ L226 q217 (0 + 3, 20) (zQ L226 x218 (0, 0 + 3) (zX (16 : Int32) 20 (bnd (zR σ227 q217 ((16 : Int32)).toNatClampNeg x218) (fun (σ228 : zS) => zQ L226 v0 (0, 6) (zQ L226 (σ228.2 v0 3) (3, 20) (bnd (σ228.2 v0 3) (fun (q229 : Nat) => znw L226 σ228 (0, 3) (fun (x230 : Nat) (L231 : List (Nat × Nat)) (σ232 : zS) => znw L231 σ232 (0, 1) (fun (x233 : Nat) (L234 : List (Nat × Nat)) (σ235 : zS) => zb (fX1_init x233 L234 σ235) (fun (L236 : List (Nat × Nat)) (σ237 : zS) => zb (fX3_init x230 x233 L236 σ237) (fun (L238 : List (Nat × Nat)) (σ239 : zS) => zQ L238 q229 (0 + 3, 20) (zQ L238 x230 (0, 0 + 3) (zX (17 : Int32) 20 (bnd (zR σ239 q229 ((17 : Int32)).toNatClampNeg x230) (fun (σ240 : zS) => zQ L238 v0 (0, 6) (zQ L238 (σ240.2 v0 3) (3, 20) (bnd (σ240.2 v0 3) (fun (q241 : Nat) => znw L238 σ240 (0, 3) (fun (x242 : Nat) (L243 : List (Nat × Nat)) (σ244 : zS) => znw L243 σ244 (0, 1) (fun (x245 : Nat) (L246 : List (Nat × Nat)) (σ247 : zS) => zb (fX1_init x245 L246 σ247) (fun (L248 : List (Nat × Nat)) (σ249 : zS) => zb (fX3_init x242 x245 L248 σ249) (fun (L250 : List (Nat × Nat)) (σ251 : zS) => zQ L250 q241 (0 + 3, 20) (zQ L250 x242 (0, 0 + 3) (zX (18 : Int32) 20 (bnd (zR σ251 q241 ((18 : Int32)).toNatClampNeg x242) (fun (σ252 : zS) => zQ L250 v0 (0, 6) (zQ L250 (σ252.2 v0 3) (3, 20) (bnd (σ252.2 v0 3) (fun (q253 : Nat) => znw L250 σ252 (0, 3) (fun (x254 : Nat) (L255 : List (Nat × Nat)) (σ256 : zS) => znw L255 σ256 (0, 1) (fun (x257 : Nat) (L258 : List (Nat × Nat)) (σ259 : zS) => zb (fX1_init x257 L258 σ259) (fun (L260 : List (Nat × Nat)) (σ261 : zS) => zb (fX3_init x254 x257 L260 σ261) (fun (L262 : List (Nat × Nat)) (σ263 : zS) => zQ L262 q253 (0 + 3, 20) (zQ L262 x254 (0, 0 + 3) (zX (19 : Int32) 20 (bnd (zR σ263 q253 ((19 : Int32)).toNatClampNeg x254) (fun (σ264 : zS) => znw L262 σ264 (0, 0) (fun (x265 : Nat) (L266 : List (Nat × Nat)) (σ267 : zS) => zQ L266 v0 (0, 6) (zQ L266 (σ267.2 v0 0) (0, 3) (bnd (σ267.2 v0 0) (fun (q268 : Nat) => zQ L266 q268 (0, 3) (zQ L266 (σ267.2 q268 0) (0, 2) (bnd (σ267.2 q268 0) (fun (q269 : Nat) => zb (fX0_init x265 q269 L266 σ267) (fun (L270 : List (Nat × Nat)) (σ271 : zS) => zQ L270 v0 (0, 6) (zQ L270 x265 (0, 0) (bnd (zR σ271 v0 5 x265) (fun (σ272 : zS) => znw L270 σ272 (4, 4) (fun (x273 : Nat) (L274 : List (Nat × Nat)) (σ275 : zS) => zQ L274 v0 (0, 6) (zQ L274 x273 (4, 4) (bnd (zR σ275 v0 6 x273) (fun (σ276 : zS) => zQ L274 v0 (0, 6) (zQ L274 (σ276.2 v0 6) (4, 4) (bnd (σ276.2 v0 6) (fun (q277 : Nat) => znw L274 σ276 (0, 4) (fun (x278 : Nat) (L279 : List (Nat × Nat)) (σ280 : zS) => zb (fX4_init x278 L279 σ280) (fun (L281 : List (Nat × Nat)) (σ282 : zS) => zQ L281 q277 (1 + 3, 4) (zQ L281 x278 (0, 1 + 3) (zX (0 : Int32) 4 (bnd (zR σ282 q277 ((0 : Int32)).toNatClampNeg x278) (fun (σ283 : zS) => zQ L281 v0 (0, 6) (zQ L281 (σ283.2 v0 6) (4, 4) (bnd (σ283.2 v0 6) (fun (q284 : Nat) => znw L281 σ283 (0, 4) (fun (x285 : Nat) (L286 : List (Nat × Nat)) (σ287 : zS) => zb (fX4_init x285 L286 σ287) (fun (L288 : List (Nat × Nat)) (σ289 : zS) => zQ L288 q284 (1 + 3, 4) (zQ L288 x285 (0, 1 + 3) (zX (1 : Int32) 4 (bnd (zR σ289 q284 ((1 : Int32)).toNatClampNeg x285) (fun (σ290 : zS) => zQ L288 v0 (0, 6) (zQ L288 (σ290.2 v0 6) (4, 4) (bnd (σ290.2 v0 6) (fun (q291 : Nat) => znw L288 σ290 (0, 4) (fun (x292 : Nat) (L293 : List (Nat × Nat)) (σ294 : zS) => zb (fX4_init x292 L293 σ294) (fun (L295 : List (Nat × Nat)) (σ296 : zS) => zQ L295 q291 (1 + 3, 4) (zQ L295 x292 (0, 1 + 3) (zX (2 : Int32) 4 (bnd (zR σ296 q291 ((2 : Int32)).toNatClampNeg x292) (fun (σ297 : zS) => zQ L295 v0 (0, 6) (zQ L295 (σ297.2 v0 6) (4, 4) (bnd (σ297.2 v0 6) (fun (q298 : Nat) => znw L295 σ297 (0, 4) (fun (x299 : Nat) (L300 : List (Nat × Nat)) (σ301 : zS) => zb (fX4_init x299 L300 σ301) (fun (L302 : List (Nat × Nat)) (σ303 : zS) => zQ L302 q298 (1 + 3, 4) (zQ L302 x299 (0, 1 + 3) (zX (3 : Int32) 4 (bnd (zR σ303 q298 ((3 : Int32)).toNatClampNeg x299) (fun (σ304 : zS) => znw L302 σ304 (0, 4) (fun (x305 : Nat) (L306 : List (Nat × Nat)) (σ307 : zS) => zb (fX4_init x305 L306 σ307) (fun (L308 : List (Nat × Nat)) (σ309 : zS) => zQ L308 v0 (0, 6) (zQ L308 x305 (0, 4) (bnd (zR σ309 v0 7 x305) (fun (σ310 : zS) => znw L308 σ310 (2, 500) (fun (x311 : Nat) (L312 : List (Nat × Nat)) (σ313 : zS) => zQ L312 v0 (0, 6) (zQ L312 x311 (2, 500) (bnd (zR σ313 v0 9 x311) (fun (σ314 : zS) => znw L312 σ314 (0, 5) (fun (x315 : Nat) (L316 : List (Nat × Nat)) (σ317 : zS) => zQ L316 v0 (0, 6) (zQ L316 (σ317.2 v0 9) (2, 500) (bnd (σ317.2 v0 9) (fun (q318 : Nat) => zQ L316 v0 (0, 6) (zQ L316 (σ317.2 v0 7) (0, 4) (bnd (σ317.2 v0 7) (fun (q319 : Nat) => zb (fX5_init x315 q318 q319 L316 σ317) (fun (L320 : List (Nat × Nat)) (σ321 : zS) => zQ L320 v0 (0, 6) (zQ L320 x315 (0, 5) (bnd (zR σ321 v0 8 x315) (fun (σ322 : zS) => znw L320 σ322 (1, 40) (fun (x323 : Nat) (L324 : List (Nat × Nat)) (σ325 : zS) => zQ L324 v0 (0, 6) (zQ L324 x323 (1, 40) (bnd (zR σ325 v0 11 x323) (fun (σ326 : zS) => znw L324 σ326 (1, 40) (fun (x327 : Nat) (L328 : List (Nat × Nat)) (σ329 : zS) => zQ L328 v0 (0, 6) (zQ L328 x327 (1, 40) (bnd (zR σ329 v0 12 x327) (fun (σ330 : zS) => zQ L328 v0 (0, 6) (bnd (zI σ330 v0 13 (1 : Int32)) (fun (σ331 : zS) => zQ L328 v0 (0, 6) (bnd (zI σ331 v0 14 (1 : Int32)) (fun (σ332 : zS) => znw L328 σ332 (1, 25) (fun (x333 : Nat) (L334 : List (Nat × Nat)) (σ335 : zS) => zQ L334 v0 (0, 6) (zQ L334 x333 (1, 25) (bnd (zR σ335 v0 15 x333) (fun (σ336 : zS) => znw L334 σ336 (1, 25) (fun (x337 : Nat) (L338 : List (Nat × Nat)) (σ339 : zS) => zQ L338 v0 (0, 6) (zQ L338 x337 (1, 25) (bnd (zR σ339 v0 16 x337) (fun (σ340 : zS) => some (L338, σ340))))))))))))))))))))))))))))))))))))))))))))))))))))))))))))))))))))))))))))))))))))))))))))))))))))))))))))))))))))))))))))))))))))))))))))))))))))))))))))))))))))))))))))))))))))))))))))))))))))))))))))))))))))))))))))))))))))))))))))))))))))))))))))))))))))))))))))))))))))))))))))))))))))))))))))))))))))))))))))))))))))))))))))))))
set_option maxRecDepth 100000 in
set_option maxHeartbeats 4000000 in
theorem kX6_init (l : Launch) (b0 : Nat) (cA : Nat → ClassId) (D : va_G) (v0 : Nat) (L : List (Nat × Nat)) (σ : zS) : zMc l b0 cA D yX6_init (Cond.code yX6_init cX6_init 2 none) rmX6_init [.ref (b0 + v0)] L σ (fX6_init v0 L σ) := by
  refine zMc_of (by decide) rfl (Nat.le_of_ble_eq_true rfl) ?_
  intro p e s m below meth c ls hNX hmn hC hl
  have hl : lv_has ls 2 [(0, .ref (b0 + v0))] := hl
  generalize ([.ref (b0 + v0)] : List Value).toArray = args at hC ⊢
  unfold fX6_init
  refine zc_aload_n (pc' := 1) hC dX6_init_0 rfl rfl (lv_at hl 0 rfl) ?_
  refine zc_objInit (pc' := 4) hC tw_1_22 tw_1_23 tw_1_24 hl.1 dX6_init_1 rfl (by decide) (Nat.le_of_ble_eq_true rfl) ?_
  refine zc_aload_n (pc' := 5) hC dX6_init_4 rfl rfl (lv_at hl 0 rfl) ?_
  refine zc_new (pc' := 8) hC fd_3_0 nw3 tw_1_25 tw_1_26 tw_1_2 (by decide) (by decide) dX6_init_5 rfl (fun x1 L2 σ3 => ?_)
  refine zc_dup (pc' := 9) hC dX6_init_8 rfl rfl ?_
  refine zc_new (pc' := 12) hC fd_1_0 nw1 tw_1_27 tw_1_28 tw_1_3 (by decide) (by decide) dX6_init_9 rfl (fun x4 L5 σ6 => ?_)
  refine zc_dup (pc' := 13) hC dX6_init_12 rfl rfl ?_
  refine zc_callIN (pc' := 16) (rest := [.ref (b0 + x4), .ref (b0 + x1), .ref (b0 + x1), .ref (b0 + v0)]) hNX hC (kX1_init l b0 cA D x4 L5 σ6) tw_1_31 hNX.2.2.1 tw_1_30 tw_1_3 rfl ddX1_init rfl ⟨by decide, by decide⟩ ⟨by decide, by decide⟩ hl.1 (Nat.le_of_ble_eq_true rfl) rfl dX6_init_13 rfl (fun L7 σ8 => ?_)
  refine zc_callI (pc' := 19) (rest := [.ref (b0 + x1), .ref (b0 + v0)]) hNX hC (kX3_init l b0 cA D x1 x4 L7 σ8) tw_1_52 tw_1_50 tw_1_51 tw_1_2 rfl ddX3_init rfl ⟨by decide, by decide⟩ ⟨by decide, by decide⟩ hl.1 (Nat.le_of_ble_eq_true rfl) rfl dX6_init_16 rfl (fun L9 σ10 => ?_)
  refine zc_putRF (pc' := 22) hmn hC fd_6_0 rfl tw_1_195 rfl rfl (fun _ => rfl) (fun _ => rfl) dX6_init_19 rfl (fun σ11 => ?_)
  refine zc_aload_n (pc' := 23) hC dX6_init_22 rfl rfl (lv_at hl 0 rfl) ?_
  refine zc_new (pc' := 26) hC fd_3_0 nw3 tw_1_25 tw_1_26 tw_1_2 (by decide) (by decide) dX6_init_23 rfl (fun x12 L13 σ14 => ?_)
  refine zc_dup (pc' := 27) hC dX6_init_26 rfl rfl ?_
  refine zc_aload_n (pc' := 28) hC dX6_init_27 rfl rfl (lv_at hl 0 rfl) ?_
  refine zc_getR (pc' := 31) hC fd_6_0 rfl tw_1_195 dX6_init_28 rfl (fun q15 => ?_)
  refine zc_getR (pc' := 34) hC fd_3_1 rfl tw_1_95 dX6_init_31 rfl (fun q16 => ?_)
  refine zc_callI (pc' := 37) (rest := [.ref (b0 + x12), .ref (b0 + v0)]) hNX hC (kX3_init l b0 cA D x12 q16 L13 σ14) tw_1_52 tw_1_50 tw_1_51 tw_1_2 rfl ddX3_init rfl ⟨by decide, by decide⟩ ⟨by decide, by decide⟩ hl.1 (Nat.le_of_ble_eq_true rfl) rfl dX6_init_34 rfl (fun L17 σ18 => ?_)
  refine zc_putRF (pc' := 40) hmn hC fd_6_1 rfl tw_1_196 rfl rfl (fun _ => rfl) (fun _ => rfl) dX6_init_37 rfl (fun σ19 => ?_)
  refine zc_aload_n (pc' := 41) hC dX6_init_40 rfl rfl (lv_at hl 0 rfl) ?_
  refine zc_iconst (pc' := 42) (v := (1 : Int32)) hC dX6_init_41 rfl rfl ?_
  refine zc_putI (pc' := 45) hC fd_6_2 rfl tw_1_197 rfl rfl rfl dX6_init_42 rfl (fun σ20 => ?_)
  refine zc_aload_n (pc' := 46) hC dX6_init_45 rfl rfl (lv_at hl 0 rfl) ?_
  refine zc_bipush (pc' := 48) (v := (20 : Int32)) hC dX6_init_46 rfl rfl ?_
  refine zc_anew (t := 3) (n := 20) (pc' := 51) hC tw_1_25 hNX.1 (by decide) (by decide) (by decide) (by decide) (by decide) (by decide) dX6_init_48 rfl (fun x21 L22 σ23 => ?_)
  refine zc_putRF (pc' := 54) hmn hC fd_6_3 rfl tw_1_198 rfl rfl (fun _ => rfl) (fun _ => rfl) dX6_init_51 rfl (fun σ24 => ?_)
  refine zc_iconst (pc' := 55) (v := (0 : Int32)) hC dX6_init_54 rfl rfl ?_
  refine zc_istore_n (pc' := 56) (lv' := [(1, .int (0 : Int32)), (0, .ref (b0 + v0))]) hC dX6_init_55 rfl rfl hl (by decide) rfl (fun ls hl => ?_)
  refine zc_iload_n (pc' := 57) hC dX6_init_56 rfl rfl (lv_at hl 0 rfl) ?_
  refine zc_bipush (pc' := 59) (v := (20 : Int32)) hC dX6_init_57 rfl rfl ?_
  refine zc_geF (tgt := 88) (pc' := 62) hC dX6_init_59 (by decide) rfl (by decide) ?_
  refine zc_aload_n (pc' := 63) hC dX6_init_62 rfl rfl (lv_at hl 1 rfl) ?_
  refine zc_getR (pc' := 66) hC fd_6_3 rfl tw_1_198 dX6_init_63 rfl (fun q25 => ?_)
  refine zc_iload_n (pc' := 67) hC dX6_init_66 rfl rfl (lv_at hl 0 rfl) ?_
  refine zc_new (pc' := 70) hC fd_3_0 nw3 tw_1_25 tw_1_26 tw_1_2 (by decide) (by decide) dX6_init_67 rfl (fun x26 L27 σ28 => ?_)
  refine zc_dup (pc' := 71) hC dX6_init_70 rfl rfl ?_
  refine zc_new (pc' := 74) hC fd_1_0 nw1 tw_1_27 tw_1_28 tw_1_3 (by decide) (by decide) dX6_init_71 rfl (fun x29 L30 σ31 => ?_)
  refine zc_dup (pc' := 75) hC dX6_init_74 rfl rfl ?_
  refine zc_callIN (pc' := 78) (rest := [.ref (b0 + x29), .ref (b0 + x26), .ref (b0 + x26), .int (0 : Int32), .ref (b0 + q25)]) hNX hC (kX1_init l b0 cA D x29 L30 σ31) tw_1_31 hNX.2.2.1 tw_1_30 tw_1_3 rfl ddX1_init rfl ⟨by decide, by decide⟩ ⟨by decide, by decide⟩ hl.1 (Nat.le_of_ble_eq_true rfl) rfl dX6_init_75 rfl (fun L32 σ33 => ?_)
  refine zc_callI (pc' := 81) (rest := [.ref (b0 + x26), .int (0 : Int32), .ref (b0 + q25)]) hNX hC (kX3_init l b0 cA D x26 x29 L32 σ33) tw_1_52 tw_1_50 tw_1_51 tw_1_2 rfl ddX3_init rfl ⟨by decide, by decide⟩ ⟨by decide, by decide⟩ hl.1 (Nat.le_of_ble_eq_true rfl) rfl dX6_init_78 rfl (fun L34 σ35 => ?_)
  refine zc_aast (t := 0) (pc' := 82) hC (by decide) dX6_init_81 rfl (fun σ36 => ?_)
  refine zc_iinc (pc' := 85) (k0 := 0) (v := (1 : Int32)) (lv' := [(1, .int (1 : Int32)), (0, .ref (b0 + v0))]) hC dX6_init_82 rfl hl rfl rfl (by decide) rfl (fun ls hl => ?_)
  refine zc_goto (tgt := 56) hC dX6_init_85 (by decide) ?_
  refine zc_iload_n (pc' := 57) hC dX6_init_56 rfl rfl (lv_at hl 0 rfl) ?_
  refine zc_bipush (pc' := 59) (v := (20 : Int32)) hC dX6_init_57 rfl rfl ?_
  refine zc_geF (tgt := 88) (pc' := 62) hC dX6_init_59 (by decide) rfl (by decide) ?_
  refine zc_aload_n (pc' := 63) hC dX6_init_62 rfl rfl (lv_at hl 1 rfl) ?_
  refine zc_getR (pc' := 66) hC fd_6_3 rfl tw_1_198 dX6_init_63 rfl (fun q37 => ?_)
  refine zc_iload_n (pc' := 67) hC dX6_init_66 rfl rfl (lv_at hl 0 rfl) ?_
  refine zc_new (pc' := 70) hC fd_3_0 nw3 tw_1_25 tw_1_26 tw_1_2 (by decide) (by decide) dX6_init_67 rfl (fun x38 L39 σ40 => ?_)
  refine zc_dup (pc' := 71) hC dX6_init_70 rfl rfl ?_
  refine zc_new (pc' := 74) hC fd_1_0 nw1 tw_1_27 tw_1_28 tw_1_3 (by decide) (by decide) dX6_init_71 rfl (fun x41 L42 σ43 => ?_)
  refine zc_dup (pc' := 75) hC dX6_init_74 rfl rfl ?_
  refine zc_callIN (pc' := 78) (rest := [.ref (b0 + x41), .ref (b0 + x38), .ref (b0 + x38), .int (1 : Int32), .ref (b0 + q37)]) hNX hC (kX1_init l b0 cA D x41 L42 σ43) tw_1_31 hNX.2.2.1 tw_1_30 tw_1_3 rfl ddX1_init rfl ⟨by decide, by decide⟩ ⟨by decide, by decide⟩ hl.1 (Nat.le_of_ble_eq_true rfl) rfl dX6_init_75 rfl (fun L44 σ45 => ?_)
  refine zc_callI (pc' := 81) (rest := [.ref (b0 + x38), .int (1 : Int32), .ref (b0 + q37)]) hNX hC (kX3_init l b0 cA D x38 x41 L44 σ45) tw_1_52 tw_1_50 tw_1_51 tw_1_2 rfl ddX3_init rfl ⟨by decide, by decide⟩ ⟨by decide, by decide⟩ hl.1 (Nat.le_of_ble_eq_true rfl) rfl dX6_init_78 rfl (fun L46 σ47 => ?_)
  refine zc_aast (t := 0) (pc' := 82) hC (by decide) dX6_init_81 rfl (fun σ48 => ?_)
  refine zc_iinc (pc' := 85) (k0 := 0) (v := (2 : Int32)) (lv' := [(1, .int (2 : Int32)), (0, .ref (b0 + v0))]) hC dX6_init_82 rfl hl rfl rfl (by decide) rfl (fun ls hl => ?_)
  refine zc_goto (tgt := 56) hC dX6_init_85 (by decide) ?_
  refine zc_iload_n (pc' := 57) hC dX6_init_56 rfl rfl (lv_at hl 0 rfl) ?_
  refine zc_bipush (pc' := 59) (v := (20 : Int32)) hC dX6_init_57 rfl rfl ?_
  refine zc_geF (tgt := 88) (pc' := 62) hC dX6_init_59 (by decide) rfl (by decide) ?_
  refine zc_aload_n (pc' := 63) hC dX6_init_62 rfl rfl (lv_at hl 1 rfl) ?_
  refine zc_getR (pc' := 66) hC fd_6_3 rfl tw_1_198 dX6_init_63 rfl (fun q49 => ?_)
  refine zc_iload_n (pc' := 67) hC dX6_init_66 rfl rfl (lv_at hl 0 rfl) ?_
  refine zc_new (pc' := 70) hC fd_3_0 nw3 tw_1_25 tw_1_26 tw_1_2 (by decide) (by decide) dX6_init_67 rfl (fun x50 L51 σ52 => ?_)
  refine zc_dup (pc' := 71) hC dX6_init_70 rfl rfl ?_
  refine zc_new (pc' := 74) hC fd_1_0 nw1 tw_1_27 tw_1_28 tw_1_3 (by decide) (by decide) dX6_init_71 rfl (fun x53 L54 σ55 => ?_)
  refine zc_dup (pc' := 75) hC dX6_init_74 rfl rfl ?_
  refine zc_callIN (pc' := 78) (rest := [.ref (b0 + x53), .ref (b0 + x50), .ref (b0 + x50), .int (2 : Int32), .ref (b0 + q49)]) hNX hC (kX1_init l b0 cA D x53 L54 σ55) tw_1_31 hNX.2.2.1 tw_1_30 tw_1_3 rfl ddX1_init rfl ⟨by decide, by decide⟩ ⟨by decide, by decide⟩ hl.1 (Nat.le_of_ble_eq_true rfl) rfl dX6_init_75 rfl (fun L56 σ57 => ?_)
  refine zc_callI (pc' := 81) (rest := [.ref (b0 + x50), .int (2 : Int32), .ref (b0 + q49)]) hNX hC (kX3_init l b0 cA D x50 x53 L56 σ57) tw_1_52 tw_1_50 tw_1_51 tw_1_2 rfl ddX3_init rfl ⟨by decide, by decide⟩ ⟨by decide, by decide⟩ hl.1 (Nat.le_of_ble_eq_true rfl) rfl dX6_init_78 rfl (fun L58 σ59 => ?_)
  refine zc_aast (t := 0) (pc' := 82) hC (by decide) dX6_init_81 rfl (fun σ60 => ?_)
  refine zc_iinc (pc' := 85) (k0 := 0) (v := (3 : Int32)) (lv' := [(1, .int (3 : Int32)), (0, .ref (b0 + v0))]) hC dX6_init_82 rfl hl rfl rfl (by decide) rfl (fun ls hl => ?_)
  refine zc_goto (tgt := 56) hC dX6_init_85 (by decide) ?_
  refine zc_iload_n (pc' := 57) hC dX6_init_56 rfl rfl (lv_at hl 0 rfl) ?_
  refine zc_bipush (pc' := 59) (v := (20 : Int32)) hC dX6_init_57 rfl rfl ?_
  refine zc_geF (tgt := 88) (pc' := 62) hC dX6_init_59 (by decide) rfl (by decide) ?_
  refine zc_aload_n (pc' := 63) hC dX6_init_62 rfl rfl (lv_at hl 1 rfl) ?_
  refine zc_getR (pc' := 66) hC fd_6_3 rfl tw_1_198 dX6_init_63 rfl (fun q61 => ?_)
  refine zc_iload_n (pc' := 67) hC dX6_init_66 rfl rfl (lv_at hl 0 rfl) ?_
  refine zc_new (pc' := 70) hC fd_3_0 nw3 tw_1_25 tw_1_26 tw_1_2 (by decide) (by decide) dX6_init_67 rfl (fun x62 L63 σ64 => ?_)
  refine zc_dup (pc' := 71) hC dX6_init_70 rfl rfl ?_
  refine zc_new (pc' := 74) hC fd_1_0 nw1 tw_1_27 tw_1_28 tw_1_3 (by decide) (by decide) dX6_init_71 rfl (fun x65 L66 σ67 => ?_)
  refine zc_dup (pc' := 75) hC dX6_init_74 rfl rfl ?_
  refine zc_callIN (pc' := 78) (rest := [.ref (b0 + x65), .ref (b0 + x62), .ref (b0 + x62), .int (3 : Int32), .ref (b0 + q61)]) hNX hC (kX1_init l b0 cA D x65 L66 σ67) tw_1_31 hNX.2.2.1 tw_1_30 tw_1_3 rfl ddX1_init rfl ⟨by decide, by decide⟩ ⟨by decide, by decide⟩ hl.1 (Nat.le_of_ble_eq_true rfl) rfl dX6_init_75 rfl (fun L68 σ69 => ?_)
  refine zc_callI (pc' := 81) (rest := [.ref (b0 + x62), .int (3 : Int32), .ref (b0 + q61)]) hNX hC (kX3_init l b0 cA D x62 x65 L68 σ69) tw_1_52 tw_1_50 tw_1_51 tw_1_2 rfl ddX3_init rfl ⟨by decide, by decide⟩ ⟨by decide, by decide⟩ hl.1 (Nat.le_of_ble_eq_true rfl) rfl dX6_init_78 rfl (fun L70 σ71 => ?_)
  refine zc_aast (t := 0) (pc' := 82) hC (by decide) dX6_init_81 rfl (fun σ72 => ?_)
  refine zc_iinc (pc' := 85) (k0 := 0) (v := (4 : Int32)) (lv' := [(1, .int (4 : Int32)), (0, .ref (b0 + v0))]) hC dX6_init_82 rfl hl rfl rfl (by decide) rfl (fun ls hl => ?_)
  refine zc_goto (tgt := 56) hC dX6_init_85 (by decide) ?_
  refine zc_iload_n (pc' := 57) hC dX6_init_56 rfl rfl (lv_at hl 0 rfl) ?_
  refine zc_bipush (pc' := 59) (v := (20 : Int32)) hC dX6_init_57 rfl rfl ?_
  refine zc_geF (tgt := 88) (pc' := 62) hC dX6_init_59 (by decide) rfl (by decide) ?_
  refine zc_aload_n (pc' := 63) hC dX6_init_62 rfl rfl (lv_at hl 1 rfl) ?_
  refine zc_getR (pc' := 66) hC fd_6_3 rfl tw_1_198 dX6_init_63 rfl (fun q73 => ?_)
  refine zc_iload_n (pc' := 67) hC dX6_init_66 rfl rfl (lv_at hl 0 rfl) ?_
  refine zc_new (pc' := 70) hC fd_3_0 nw3 tw_1_25 tw_1_26 tw_1_2 (by decide) (by decide) dX6_init_67 rfl (fun x74 L75 σ76 => ?_)
  refine zc_dup (pc' := 71) hC dX6_init_70 rfl rfl ?_
  refine zc_new (pc' := 74) hC fd_1_0 nw1 tw_1_27 tw_1_28 tw_1_3 (by decide) (by decide) dX6_init_71 rfl (fun x77 L78 σ79 => ?_)
  refine zc_dup (pc' := 75) hC dX6_init_74 rfl rfl ?_
  refine zc_callIN (pc' := 78) (rest := [.ref (b0 + x77), .ref (b0 + x74), .ref (b0 + x74), .int (4 : Int32), .ref (b0 + q73)]) hNX hC (kX1_init l b0 cA D x77 L78 σ79) tw_1_31 hNX.2.2.1 tw_1_30 tw_1_3 rfl ddX1_init rfl ⟨by decide, by decide⟩ ⟨by decide, by decide⟩ hl.1 (Nat.le_of_ble_eq_true rfl) rfl dX6_init_75 rfl (fun L80 σ81 => ?_)
  refine zc_callI (pc' := 81) (rest := [.ref (b0 + x74), .int (4 : Int32), .ref (b0 + q73)]) hNX hC (kX3_init l b0 cA D x74 x77 L80 σ81) tw_1_52 tw_1_50 tw_1_51 tw_1_2 rfl ddX3_init rfl ⟨by decide, by decide⟩ ⟨by decide, by decide⟩ hl.1 (Nat.le_of_ble_eq_true rfl) rfl dX6_init_78 rfl (fun L82 σ83 => ?_)
  refine zc_aast (t := 0) (pc' := 82) hC (by decide) dX6_init_81 rfl (fun σ84 => ?_)
  refine zc_iinc (pc' := 85) (k0 := 0) (v := (5 : Int32)) (lv' := [(1, .int (5 : Int32)), (0, .ref (b0 + v0))]) hC dX6_init_82 rfl hl rfl rfl (by decide) rfl (fun ls hl => ?_)
  refine zc_goto (tgt := 56) hC dX6_init_85 (by decide) ?_
  refine zc_iload_n (pc' := 57) hC dX6_init_56 rfl rfl (lv_at hl 0 rfl) ?_
  refine zc_bipush (pc' := 59) (v := (20 : Int32)) hC dX6_init_57 rfl rfl ?_
  refine zc_geF (tgt := 88) (pc' := 62) hC dX6_init_59 (by decide) rfl (by decide) ?_
  refine zc_aload_n (pc' := 63) hC dX6_init_62 rfl rfl (lv_at hl 1 rfl) ?_
  refine zc_getR (pc' := 66) hC fd_6_3 rfl tw_1_198 dX6_init_63 rfl (fun q85 => ?_)
  refine zc_iload_n (pc' := 67) hC dX6_init_66 rfl rfl (lv_at hl 0 rfl) ?_
  refine zc_new (pc' := 70) hC fd_3_0 nw3 tw_1_25 tw_1_26 tw_1_2 (by decide) (by decide) dX6_init_67 rfl (fun x86 L87 σ88 => ?_)
  refine zc_dup (pc' := 71) hC dX6_init_70 rfl rfl ?_
  refine zc_new (pc' := 74) hC fd_1_0 nw1 tw_1_27 tw_1_28 tw_1_3 (by decide) (by decide) dX6_init_71 rfl (fun x89 L90 σ91 => ?_)
  refine zc_dup (pc' := 75) hC dX6_init_74 rfl rfl ?_
  refine zc_callIN (pc' := 78) (rest := [.ref (b0 + x89), .ref (b0 + x86), .ref (b0 + x86), .int (5 : Int32), .ref (b0 + q85)]) hNX hC (kX1_init l b0 cA D x89 L90 σ91) tw_1_31 hNX.2.2.1 tw_1_30 tw_1_3 rfl ddX1_init rfl ⟨by decide, by decide⟩ ⟨by decide, by decide⟩ hl.1 (Nat.le_of_ble_eq_true rfl) rfl dX6_init_75 rfl (fun L92 σ93 => ?_)
  refine zc_callI (pc' := 81) (rest := [.ref (b0 + x86), .int (5 : Int32), .ref (b0 + q85)]) hNX hC (kX3_init l b0 cA D x86 x89 L92 σ93) tw_1_52 tw_1_50 tw_1_51 tw_1_2 rfl ddX3_init rfl ⟨by decide, by decide⟩ ⟨by decide, by decide⟩ hl.1 (Nat.le_of_ble_eq_true rfl) rfl dX6_init_78 rfl (fun L94 σ95 => ?_)
  refine zc_aast (t := 0) (pc' := 82) hC (by decide) dX6_init_81 rfl (fun σ96 => ?_)
  refine zc_iinc (pc' := 85) (k0 := 0) (v := (6 : Int32)) (lv' := [(1, .int (6 : Int32)), (0, .ref (b0 + v0))]) hC dX6_init_82 rfl hl rfl rfl (by decide) rfl (fun ls hl => ?_)
  refine zc_goto (tgt := 56) hC dX6_init_85 (by decide) ?_
  refine zc_iload_n (pc' := 57) hC dX6_init_56 rfl rfl (lv_at hl 0 rfl) ?_
  refine zc_bipush (pc' := 59) (v := (20 : Int32)) hC dX6_init_57 rfl rfl ?_
  refine zc_geF (tgt := 88) (pc' := 62) hC dX6_init_59 (by decide) rfl (by decide) ?_
  refine zc_aload_n (pc' := 63) hC dX6_init_62 rfl rfl (lv_at hl 1 rfl) ?_
  refine zc_getR (pc' := 66) hC fd_6_3 rfl tw_1_198 dX6_init_63 rfl (fun q97 => ?_)
  refine zc_iload_n (pc' := 67) hC dX6_init_66 rfl rfl (lv_at hl 0 rfl) ?_
  refine zc_new (pc' := 70) hC fd_3_0 nw3 tw_1_25 tw_1_26 tw_1_2 (by decide) (by decide) dX6_init_67 rfl (fun x98 L99 σ100 => ?_)
  refine zc_dup (pc' := 71) hC dX6_init_70 rfl rfl ?_
  refine zc_new (pc' := 74) hC fd_1_0 nw1 tw_1_27 tw_1_28 tw_1_3 (by decide) (by decide) dX6_init_71 rfl (fun x101 L102 σ103 => ?_)
  refine zc_dup (pc' := 75) hC dX6_init_74 rfl rfl ?_
  refine zc_callIN (pc' := 78) (rest := [.ref (b0 + x101), .ref (b0 + x98), .ref (b0 + x98), .int (6 : Int32), .ref (b0 + q97)]) hNX hC (kX1_init l b0 cA D x101 L102 σ103) tw_1_31 hNX.2.2.1 tw_1_30 tw_1_3 rfl ddX1_init rfl ⟨by decide, by decide⟩ ⟨by decide, by decide⟩ hl.1 (Nat.le_of_ble_eq_true rfl) rfl dX6_init_75 rfl (fun L104 σ105 => ?_)
  refine zc_callI (pc' := 81) (rest := [.ref (b0 + x98), .int (6 : Int32), .ref (b0 + q97)]) hNX hC (kX3_init l b0 cA D x98 x101 L104 σ105) tw_1_52 tw_1_50 tw_1_51 tw_1_2 rfl ddX3_init rfl ⟨by decide, by decide⟩ ⟨by decide, by decide⟩ hl.1 (Nat.le_of_ble_eq_true rfl) rfl dX6_init_78 rfl (fun L106 σ107 => ?_)
  refine zc_aast (t := 0) (pc' := 82) hC (by decide) dX6_init_81 rfl (fun σ108 => ?_)
  refine zc_iinc (pc' := 85) (k0 := 0) (v := (7 : Int32)) (lv' := [(1, .int (7 : Int32)), (0, .ref (b0 + v0))]) hC dX6_init_82 rfl hl rfl rfl (by decide) rfl (fun ls hl => ?_)
  refine zc_goto (tgt := 56) hC dX6_init_85 (by decide) ?_
  refine zc_iload_n (pc' := 57) hC dX6_init_56 rfl rfl (lv_at hl 0 rfl) ?_
  refine zc_bipush (pc' := 59) (v := (20 : Int32)) hC dX6_init_57 rfl rfl ?_
  refine zc_geF (tgt := 88) (pc' := 62) hC dX6_init_59 (by decide) rfl (by decide) ?_
  refine zc_aload_n (pc' := 63) hC dX6_init_62 rfl rfl (lv_at hl 1 rfl) ?_
  refine zc_getR (pc' := 66) hC fd_6_3 rfl tw_1_198 dX6_init_63 rfl (fun q109 => ?_)
  refine zc_iload_n (pc' := 67) hC dX6_init_66 rfl rfl (lv_at hl 0 rfl) ?_
  refine zc_new (pc' := 70) hC fd_3_0 nw3 tw_1_25 tw_1_26 tw_1_2 (by decide) (by decide) dX6_init_67 rfl (fun x110 L111 σ112 => ?_)
  refine zc_dup (pc' := 71) hC dX6_init_70 rfl rfl ?_
  refine zc_new (pc' := 74) hC fd_1_0 nw1 tw_1_27 tw_1_28 tw_1_3 (by decide) (by decide) dX6_init_71 rfl (fun x113 L114 σ115 => ?_)
  refine zc_dup (pc' := 75) hC dX6_init_74 rfl rfl ?_
  refine zc_callIN (pc' := 78) (rest := [.ref (b0 + x113), .ref (b0 + x110), .ref (b0 + x110), .int (7 : Int32), .ref (b0 + q109)]) hNX hC (kX1_init l b0 cA D x113 L114 σ115) tw_1_31 hNX.2.2.1 tw_1_30 tw_1_3 rfl ddX1_init rfl ⟨by decide, by decide⟩ ⟨by decide, by decide⟩ hl.1 (Nat.le_of_ble_eq_true rfl) rfl dX6_init_75 rfl (fun L116 σ117 => ?_)
  refine zc_callI (pc' := 81) (rest := [.ref (b0 + x110), .int (7 : Int32), .ref (b0 + q109)]) hNX hC (kX3_init l b0 cA D x110 x113 L116 σ117) tw_1_52 tw_1_50 tw_1_51 tw_1_2 rfl ddX3_init rfl ⟨by decide, by decide⟩ ⟨by decide, by decide⟩ hl.1 (Nat.le_of_ble_eq_true rfl) rfl dX6_init_78 rfl (fun L118 σ119 => ?_)
  refine zc_aast (t := 0) (pc' := 82) hC (by decide) dX6_init_81 rfl (fun σ120 => ?_)
  refine zc_iinc (pc' := 85) (k0 := 0) (v := (8 : Int32)) (lv' := [(1, .int (8 : Int32)), (0, .ref (b0 + v0))]) hC dX6_init_82 rfl hl rfl rfl (by decide) rfl (fun ls hl => ?_)
  refine zc_goto (tgt := 56) hC dX6_init_85 (by decide) ?_
  refine zc_iload_n (pc' := 57) hC dX6_init_56 rfl rfl (lv_at hl 0 rfl) ?_
  refine zc_bipush (pc' := 59) (v := (20 : Int32)) hC dX6_init_57 rfl rfl ?_
  refine zc_geF (tgt := 88) (pc' := 62) hC dX6_init_59 (by decide) rfl (by decide) ?_
  refine zc_aload_n (pc' := 63) hC dX6_init_62 rfl rfl (lv_at hl 1 rfl) ?_
  refine zc_getR (pc' := 66) hC fd_6_3 rfl tw_1_198 dX6_init_63 rfl (fun q121 => ?_)
  refine zc_iload_n (pc' := 67) hC dX6_init_66 rfl rfl (lv_at hl 0 rfl) ?_
  refine zc_new (pc' := 70) hC fd_3_0 nw3 tw_1_25 tw_1_26 tw_1_2 (by decide) (by decide) dX6_init_67 rfl (fun x122 L123 σ124 => ?_)
  refine zc_dup (pc' := 71) hC dX6_init_70 rfl rfl ?_
  refine zc_new (pc' := 74) hC fd_1_0 nw1 tw_1_27 tw_1_28 tw_1_3 (by decide) (by decide) dX6_init_71 rfl (fun x125 L126 σ127 => ?_)
  refine zc_dup (pc' := 75) hC dX6_init_74 rfl rfl ?_
  refine zc_callIN (pc' := 78) (rest := [.ref (b0 + x125), .ref (b0 + x122), .ref (b0 + x122), .int (8 : Int32), .ref (b0 + q121)]) hNX hC (kX1_init l b0 cA D x125 L126 σ127) tw_1_31 hNX.2.2.1 tw_1_30 tw_1_3 rfl ddX1_init rfl ⟨by decide, by decide⟩ ⟨by decide, by decide⟩ hl.1 (Nat.le_of_ble_eq_true rfl) rfl dX6_init_75 rfl (fun L128 σ129 => ?_)
  refine zc_callI (pc' := 81) (rest := [.ref (b0 + x122), .int (8 : Int32), .ref (b0 + q121)]) hNX hC (kX3_init l b0 cA D x122 x125 L128 σ129) tw_1_52 tw_1_50 tw_1_51 tw_1_2 rfl ddX3_init rfl ⟨by decide, by decide⟩ ⟨by decide, by decide⟩ hl.1 (Nat.le_of_ble_eq_true rfl) rfl dX6_init_78 rfl (fun L130 σ131 => ?_)
  refine zc_aast (t := 0) (pc' := 82) hC (by decide) dX6_init_81 rfl (fun σ132 => ?_)
  refine zc_iinc (pc' := 85) (k0 := 0) (v := (9 : Int32)) (lv' := [(1, .int (9 : Int32)), (0, .ref (b0 + v0))]) hC dX6_init_82 rfl hl rfl rfl (by decide) rfl (fun ls hl => ?_)
  refine zc_goto (tgt := 56) hC dX6_init_85 (by decide) ?_
  refine zc_iload_n (pc' := 57) hC dX6_init_56 rfl rfl (lv_at hl 0 rfl) ?_
  refine zc_bipush (pc' := 59) (v := (20 : Int32)) hC dX6_init_57 rfl rfl ?_
  refine zc_geF (tgt := 88) (pc' := 62) hC dX6_init_59 (by decide) rfl (by decide) ?_
  refine zc_aload_n (pc' := 63) hC dX6_init_62 rfl rfl (lv_at hl 1 rfl) ?_
  refine zc_getR (pc' := 66) hC fd_6_3 rfl tw_1_198 dX6_init_63 rfl (fun q133 => ?_)
  refine zc_iload_n (pc' := 67) hC dX6_init_66 rfl rfl (lv_at hl 0 rfl) ?_
  refine zc_new (pc' := 70) hC fd_3_0 nw3 tw_1_25 tw_1_26 tw_1_2 (by decide) (by decide) dX6_init_67 rfl (fun x134 L135 σ136 => ?_)
  refine zc_dup (pc' := 71) hC dX6_init_70 rfl rfl ?_
  refine zc_new (pc' := 74) hC fd_1_0 nw1 tw_1_27 tw_1_28 tw_1_3 (by decide) (by decide) dX6_init_71 rfl (fun x137 L138 σ139 => ?_)
  refine zc_dup (pc' := 75) hC dX6_init_74 rfl rfl ?_
  refine zc_callIN (pc' := 78) (rest := [.ref (b0 + x137), .ref (b0 + x134), .ref (b0 + x134), .int (9 : Int32), .ref (b0 + q133)]) hNX hC (kX1_init l b0 cA D x137 L138 σ139) tw_1_31 hNX.2.2.1 tw_1_30 tw_1_3 rfl ddX1_init rfl ⟨by decide, by decide⟩ ⟨by decide, by decide⟩ hl.1 (Nat.le_of_ble_eq_true rfl) rfl dX6_init_75 rfl (fun L140 σ141 => ?_)
  refine zc_callI (pc' := 81) (rest := [.ref (b0 + x134), .int (9 : Int32), .ref (b0 + q133)]) hNX hC (kX3_init l b0 cA D x134 x137 L140 σ141) tw_1_52 tw_1_50 tw_1_51 tw_1_2 rfl ddX3_init rfl ⟨by decide, by decide⟩ ⟨by decide, by decide⟩ hl.1 (Nat.le_of_ble_eq_true rfl) rfl dX6_init_78 rfl (fun L142 σ143 => ?_)
  refine zc_aast (t := 0) (pc' := 82) hC (by decide) dX6_init_81 rfl (fun σ144 => ?_)
  refine zc_iinc (pc' := 85) (k0 := 0) (v := (10 : Int32)) (lv' := [(1, .int (10 : Int32)), (0, .ref (b0 + v0))]) hC dX6_init_82 rfl hl rfl rfl (by decide) rfl (fun ls hl => ?_)
  refine zc_goto (tgt := 56) hC dX6_init_85 (by decide) ?_
  refine zc_iload_n (pc' := 57) hC dX6_init_56 rfl rfl (lv_at hl 0 rfl) ?_
  refine zc_bipush (pc' := 59) (v := (20 : Int32)) hC dX6_init_57 rfl rfl ?_
  refine zc_geF (tgt := 88) (pc' := 62) hC dX6_init_59 (by decide) rfl (by decide) ?_
  refine zc_aload_n (pc' := 63) hC dX6_init_62 rfl rfl (lv_at hl 1 rfl) ?_
  refine zc_getR (pc' := 66) hC fd_6_3 rfl tw_1_198 dX6_init_63 rfl (fun q145 => ?_)
  refine zc_iload_n (pc' := 67) hC dX6_init_66 rfl rfl (lv_at hl 0 rfl) ?_
  refine zc_new (pc' := 70) hC fd_3_0 nw3 tw_1_25 tw_1_26 tw_1_2 (by decide) (by decide) dX6_init_67 rfl (fun x146 L147 σ148 => ?_)
  refine zc_dup (pc' := 71) hC dX6_init_70 rfl rfl ?_
  refine zc_new (pc' := 74) hC fd_1_0 nw1 tw_1_27 tw_1_28 tw_1_3 (by decide) (by decide) dX6_init_71 rfl (fun x149 L150 σ151 => ?_)
  refine zc_dup (pc' := 75) hC dX6_init_74 rfl rfl ?_
  refine zc_callIN (pc' := 78) (rest := [.ref (b0 + x149), .ref (b0 + x146), .ref (b0 + x146), .int (10 : Int32), .ref (b0 + q145)]) hNX hC (kX1_init l b0 cA D x149 L150 σ151) tw_1_31 hNX.2.2.1 tw_1_30 tw_1_3 rfl ddX1_init rfl ⟨by decide, by decide⟩ ⟨by decide, by decide⟩ hl.1 (Nat.le_of_ble_eq_true rfl) rfl dX6_init_75 rfl (fun L152 σ153 => ?_)
  refine zc_callI (pc' := 81) (rest := [.ref (b0 + x146), .int (10 : Int32), .ref (b0 + q145)]) hNX hC (kX3_init l b0 cA D x146 x149 L152 σ153) tw_1_52 tw_1_50 tw_1_51 tw_1_2 rfl ddX3_init rfl ⟨by decide, by decide⟩ ⟨by decide, by decide⟩ hl.1 (Nat.le_of_ble_eq_true rfl) rfl dX6_init_78 rfl (fun L154 σ155 => ?_)
  refine zc_aast (t := 0) (pc' := 82) hC (by decide) dX6_init_81 rfl (fun σ156 => ?_)
  refine zc_iinc (pc' := 85) (k0 := 0) (v := (11 : Int32)) (lv' := [(1, .int (11 : Int32)), (0, .ref (b0 + v0))]) hC dX6_init_82 rfl hl rfl rfl (by decide) rfl (fun ls hl => ?_)
  refine zc_goto (tgt := 56) hC dX6_init_85 (by decide) ?_
  refine zc_iload_n (pc' := 57) hC dX6_init_56 rfl rfl (lv_at hl 0 rfl) ?_
  refine zc_bipush (pc' := 59) (v := (20 : Int32)) hC dX6_init_57 rfl rfl ?_
  refine zc_geF (tgt := 88) (pc' := 62) hC dX6_init_59 (by decide) rfl (by decide) ?_
  refine zc_aload_n (pc' := 63) hC dX6_init_62 rfl rfl (lv_at hl 1 rfl) ?_
  refine zc_getR (pc' := 66) hC fd_6_3 rfl tw_1_198 dX6_init_63 rfl (fun q157 => ?_)
  refine zc_iload_n (pc' := 67) hC dX6_init_66 rfl rfl (lv_at hl 0 rfl) ?_
  refine zc_new (pc' := 70) hC fd_3_0 nw3 tw_1_25 tw_1_26 tw_1_2 (by decide) (by decide) dX6_init_67 rfl (fun x158 L159 σ160 => ?_)
  refine zc_dup (pc' := 71) hC dX6_init_70 rfl rfl ?_
  refine zc_new (pc' := 74) hC fd_1_0 nw1 tw_1_27 tw_1_28 tw_1_3 (by decide) (by decide) dX6_init_71 rfl (fun x161 L162 σ163 => ?_)
  refine zc_dup (pc' := 75) hC dX6_init_74 rfl rfl ?_
  refine zc_callIN (pc' := 78) (rest := [.ref (b0 + x161), .ref (b0 + x158), .ref (b0 + x158), .int (11 : Int32), .ref (b0 + q157)]) hNX hC (kX1_init l b0 cA D x161 L162 σ163) tw_1_31 hNX.2.2.1 tw_1_30 tw_1_3 rfl ddX1_init rfl ⟨by decide, by decide⟩ ⟨by decide, by decide⟩ hl.1 (Nat.le_of_ble_eq_true rfl) rfl dX6_init_75 rfl (fun L164 σ165 => ?_)
  refine zc_callI (pc' := 81) (rest := [.ref (b0 + x158), .int (11 : Int32), .ref (b0 + q157)]) hNX hC (kX3_init l b0 cA D x158 x161 L164 σ165) tw_1_52 tw_1_50 tw_1_51 tw_1_2 rfl ddX3_init rfl ⟨by decide, by decide⟩ ⟨by decide, by decide⟩ hl.1 (Nat.le_of_ble_eq_true rfl) rfl dX6_init_78 rfl (fun L166 σ167 => ?_)
  refine zc_aast (t := 0) (pc' := 82) hC (by decide) dX6_init_81 rfl (fun σ168 => ?_)
  refine zc_iinc (pc' := 85) (k0 := 0) (v := (12 : Int32)) (lv' := [(1, .int (12 : Int32)), (0, .ref (b0 + v0))]) hC dX6_init_82 rfl hl rfl rfl (by decide) rfl (fun ls hl => ?_)
  refine zc_goto (tgt := 56) hC dX6_init_85 (by decide) ?_
  refine zc_iload_n (pc' := 57) hC dX6_init_56 rfl rfl (lv_at hl 0 rfl) ?_
  refine zc_bipush (pc' := 59) (v := (20 : Int32)) hC dX6_init_57 rfl rfl ?_
  refine zc_geF (tgt := 88) (pc' := 62) hC dX6_init_59 (by decide) rfl (by decide) ?_
  refine zc_aload_n (pc' := 63) hC dX6_init_62 rfl rfl (lv_at hl 1 rfl) ?_
  refine zc_getR (pc' := 66) hC fd_6_3 rfl tw_1_198 dX6_init_63 rfl (fun q169 => ?_)
  refine zc_iload_n (pc' := 67) hC dX6_init_66 rfl rfl (lv_at hl 0 rfl) ?_
  refine zc_new (pc' := 70) hC fd_3_0 nw3 tw_1_25 tw_1_26 tw_1_2 (by decide) (by decide) dX6_init_67 rfl (fun x170 L171 σ172 => ?_)
  refine zc_dup (pc' := 71) hC dX6_init_70 rfl rfl ?_
  refine zc_new (pc' := 74) hC fd_1_0 nw1 tw_1_27 tw_1_28 tw_1_3 (by decide) (by decide) dX6_init_71 rfl (fun x173 L174 σ175 => ?_)
  refine zc_dup (pc' := 75) hC dX6_init_74 rfl rfl ?_
  refine zc_callIN (pc' := 78) (rest := [.ref (b0 + x173), .ref (b0 + x170), .ref (b0 + x170), .int (12 : Int32), .ref (b0 + q169)]) hNX hC (kX1_init l b0 cA D x173 L174 σ175) tw_1_31 hNX.2.2.1 tw_1_30 tw_1_3 rfl ddX1_init rfl ⟨by decide, by decide⟩ ⟨by decide, by decide⟩ hl.1 (Nat.le_of_ble_eq_true rfl) rfl dX6_init_75 rfl (fun L176 σ177 => ?_)
  refine zc_callI (pc' := 81) (rest := [.ref (b0 + x170), .int (12 : Int32), .ref (b0 + q169)]) hNX hC (kX3_init l b0 cA D x170 x173 L176 σ177) tw_1_52 tw_1_50 tw_1_51 tw_1_2 rfl ddX3_init rfl ⟨by decide, by decide⟩ ⟨by decide, by decide⟩ hl.1 (Nat.le_of_ble_eq_true rfl) rfl dX6_init_78 rfl (fun L178 σ179 => ?_)
  refine zc_aast (t := 0) (pc' := 82) hC (by decide) dX6_init_81 rfl (fun σ180 => ?_)
  refine zc_iinc (pc' := 85) (k0 := 0) (v := (13 : Int32)) (lv' := [(1, .int (13 : Int32)), (0, .ref (b0 + v0))]) hC dX6_init_82 rfl hl rfl rfl (by decide) rfl (fun ls hl => ?_)
  refine zc_goto (tgt := 56) hC dX6_init_85 (by decide) ?_
  refine zc_iload_n (pc' := 57) hC dX6_init_56 rfl rfl (lv_at hl 0 rfl) ?_
  refine zc_bipush (pc' := 59) (v := (20 : Int32)) hC dX6_init_57 rfl rfl ?_
  refine zc_geF (tgt := 88) (pc' := 62) hC dX6_init_59 (by decide) rfl (by decide) ?_
  refine zc_aload_n (pc' := 63) hC dX6_init_62 rfl rfl (lv_at hl 1 rfl) ?_
  refine zc_getR (pc' := 66) hC fd_6_3 rfl tw_1_198 dX6_init_63 rfl (fun q181 => ?_)
  refine zc_iload_n (pc' := 67) hC dX6_init_66 rfl rfl (lv_at hl 0 rfl) ?_
  refine zc_new (pc' := 70) hC fd_3_0 nw3 tw_1_25 tw_1_26 tw_1_2 (by decide) (by decide) dX6_init_67 rfl (fun x182 L183 σ184 => ?_)
  refine zc_dup (pc' := 71) hC dX6_init_70 rfl rfl ?_
  refine zc_new (pc' := 74) hC fd_1_0 nw1 tw_1_27 tw_1_28 tw_1_3 (by decide) (by decide) dX6_init_71 rfl (fun x185 L186 σ187 => ?_)
  refine zc_dup (pc' := 75) hC dX6_init_74 rfl rfl ?_
  refine zc_callIN (pc' := 78) (rest := [.ref (b0 + x185), .ref (b0 + x182), .ref (b0 + x182), .int (13 : Int32), .ref (b0 + q181)]) hNX hC (kX1_init l b0 cA D x185 L186 σ187) tw_1_31 hNX.2.2.1 tw_1_30 tw_1_3 rfl ddX1_init rfl ⟨by decide, by decide⟩ ⟨by decide, by decide⟩ hl.1 (Nat.le_of_ble_eq_true rfl) rfl dX6_init_75 rfl (fun L188 σ189 => ?_)
  refine zc_callI (pc' := 81) (rest := [.ref (b0 + x182), .int (13 : Int32), .ref (b0 + q181)]) hNX hC (kX3_init l b0 cA D x182 x185 L188 σ189) tw_1_52 tw_1_50 tw_1_51 tw_1_2 rfl ddX3_init rfl ⟨by decide, by decide⟩ ⟨by decide, by decide⟩ hl.1 (Nat.le_of_ble_eq_true rfl) rfl dX6_init_78 rfl (fun L190 σ191 => ?_)
  refine zc_aast (t := 0) (pc' := 82) hC (by decide) dX6_init_81 rfl (fun σ192 => ?_)
  refine zc_iinc (pc' := 85) (k0 := 0) (v := (14 : Int32)) (lv' := [(1, .int (14 : Int32)), (0, .ref (b0 + v0))]) hC dX6_init_82 rfl hl rfl rfl (by decide) rfl (fun ls hl => ?_)
  refine zc_goto (tgt := 56) hC dX6_init_85 (by decide) ?_
  refine zc_iload_n (pc' := 57) hC dX6_init_56 rfl rfl (lv_at hl 0 rfl) ?_
  refine zc_bipush (pc' := 59) (v := (20 : Int32)) hC dX6_init_57 rfl rfl ?_
  refine zc_geF (tgt := 88) (pc' := 62) hC dX6_init_59 (by decide) rfl (by decide) ?_
  refine zc_aload_n (pc' := 63) hC dX6_init_62 rfl rfl (lv_at hl 1 rfl) ?_
  refine zc_getR (pc' := 66) hC fd_6_3 rfl tw_1_198 dX6_init_63 rfl (fun q193 => ?_)
  refine zc_iload_n (pc' := 67) hC dX6_init_66 rfl rfl (lv_at hl 0 rfl) ?_
  refine zc_new (pc' := 70) hC fd_3_0 nw3 tw_1_25 tw_1_26 tw_1_2 (by decide) (by decide) dX6_init_67 rfl (fun x194 L195 σ196 => ?_)
  refine zc_dup (pc' := 71) hC dX6_init_70 rfl rfl ?_
  refine zc_new (pc' := 74) hC fd_1_0 nw1 tw_1_27 tw_1_28 tw_1_3 (by decide) (by decide) dX6_init_71 rfl (fun x197 L198 σ199 => ?_)
  refine zc_dup (pc' := 75) hC dX6_init_74 rfl rfl ?_
  refine zc_callIN (pc' := 78) (rest := [.ref (b0 + x197), .ref (b0 + x194), .ref (b0 + x194), .int (14 : Int32), .ref (b0 + q193)]) hNX hC (kX1_init l b0 cA D x197 L198 σ199) tw_1_31 hNX.2.2.1 tw_1_30 tw_1_3 rfl ddX1_init rfl ⟨by decide, by decide⟩ ⟨by decide, by decide⟩ hl.1 (Nat.le_of_ble_eq_true rfl) rfl dX6_init_75 rfl (fun L200 σ201 => ?_)
  refine zc_callI (pc' := 81) (rest := [.ref (b0 + x194), .int (14 : Int32), .ref (b0 + q193)]) hNX hC (kX3_init l b0 cA D x194 x197 L200 σ201) tw_1_52 tw_1_50 tw_1_51 tw_1_2 rfl ddX3_init rfl ⟨by decide, by decide⟩ ⟨by decide, by decide⟩ hl.1 (Nat.le_of_ble_eq_true rfl) rfl dX6_init_78 rfl (fun L202 σ203 => ?_)
  refine zc_aast (t := 0) (pc' := 82) hC (by decide) dX6_init_81 rfl (fun σ204 => ?_)
  refine zc_iinc (pc' := 85) (k0 := 0) (v := (15 : Int32)) (lv' := [(1, .int (15 : Int32)), (0, .ref (b0 + v0))]) hC dX6_init_82 rfl hl rfl rfl (by decide) rfl (fun ls hl => ?_)
  refine zc_goto (tgt := 56) hC dX6_init_85 (by decide) ?_
  refine zc_iload_n (pc' := 57) hC dX6_init_56 rfl rfl (lv_at hl 0 rfl) ?_
  refine zc_bipush (pc' := 59) (v := (20 : Int32)) hC dX6_init_57 rfl rfl ?_
  refine zc_geF (tgt := 88) (pc' := 62) hC dX6_init_59 (by decide) rfl (by decide) ?_
  refine zc_aload_n (pc' := 63) hC dX6_init_62 rfl rfl (lv_at hl 1 rfl) ?_
  refine zc_getR (pc' := 66) hC fd_6_3 rfl tw_1_198 dX6_init_63 rfl (fun q205 => ?_)
  refine zc_iload_n (pc' := 67) hC dX6_init_66 rfl rfl (lv_at hl 0 rfl) ?_
  refine zc_new (pc' := 70) hC fd_3_0 nw3 tw_1_25 tw_1_26 tw_1_2 (by decide) (by decide) dX6_init_67 rfl (fun x206 L207 σ208 => ?_)
  refine zc_dup (pc' := 71) hC dX6_init_70 rfl rfl ?_
  refine zc_new (pc' := 74) hC fd_1_0 nw1 tw_1_27 tw_1_28 tw_1_3 (by decide) (by decide) dX6_init_71 rfl (fun x209 L210 σ211 => ?_)
  refine zc_dup (pc' := 75) hC dX6_init_74 rfl rfl ?_
  refine zc_callIN (pc' := 78) (rest := [.ref (b0 + x209), .ref (b0 + x206), .ref (b0 + x206), .int (15 : Int32), .ref (b0 + q205)]) hNX hC (kX1_init l b0 cA D x209 L210 σ211) tw_1_31 hNX.2.2.1 tw_1_30 tw_1_3 rfl ddX1_init rfl ⟨by decide, by decide⟩ ⟨by decide, by decide⟩ hl.1 (Nat.le_of_ble_eq_true rfl) rfl dX6_init_75 rfl (fun L212 σ213 => ?_)
  refine zc_callI (pc' := 81) (rest := [.ref (b0 + x206), .int (15 : Int32), .ref (b0 + q205)]) hNX hC (kX3_init l b0 cA D x206 x209 L212 σ213) tw_1_52 tw_1_50 tw_1_51 tw_1_2 rfl ddX3_init rfl ⟨by decide, by decide⟩ ⟨by decide, by decide⟩ hl.1 (Nat.le_of_ble_eq_true rfl) rfl dX6_init_78 rfl (fun L214 σ215 => ?_)
  refine zc_aast (t := 0) (pc' := 82) hC (by decide) dX6_init_81 rfl (fun σ216 => ?_)
  refine zc_iinc (pc' := 85) (k0 := 0) (v := (16 : Int32)) (lv' := [(1, .int (16 : Int32)), (0, .ref (b0 + v0))]) hC dX6_init_82 rfl hl rfl rfl (by decide) rfl (fun ls hl => ?_)
  refine zc_goto (tgt := 56) hC dX6_init_85 (by decide) ?_
  refine zc_iload_n (pc' := 57) hC dX6_init_56 rfl rfl (lv_at hl 0 rfl) ?_
  refine zc_bipush (pc' := 59) (v := (20 : Int32)) hC dX6_init_57 rfl rfl ?_
  refine zc_geF (tgt := 88) (pc' := 62) hC dX6_init_59 (by decide) rfl (by decide) ?_
  refine zc_aload_n (pc' := 63) hC dX6_init_62 rfl rfl (lv_at hl 1 rfl) ?_
  refine zc_getR (pc' := 66) hC fd_6_3 rfl tw_1_198 dX6_init_63 rfl (fun q217 => ?_)
  refine zc_iload_n (pc' := 67) hC dX6_init_66 rfl rfl (lv_at hl 0 rfl) ?_
  refine zc_new (pc' := 70) hC fd_3_0 nw3 tw_1_25 tw_1_26 tw_1_2 (by decide) (by decide) dX6_init_67 rfl (fun x218 L219 σ220 => ?_)
  refine zc_dup (pc' := 71) hC dX6_init_70 rfl rfl ?_
  refine zc_new (pc' := 74) hC fd_1_0 nw1 tw_1_27 tw_1_28 tw_1_3 (by decide) (by decide) dX6_init_71 rfl (fun x221 L222 σ223 => ?_)
  refine zc_dup (pc' := 75) hC dX6_init_74 rfl rfl ?_
  refine zc_callIN (pc' := 78) (rest := [.ref (b0 + x221), .ref (b0 + x218), .ref (b0 + x218), .int (16 : Int32), .ref (b0 + q217)]) hNX hC (kX1_init l b0 cA D x221 L222 σ223) tw_1_31 hNX.2.2.1 tw_1_30 tw_1_3 rfl ddX1_init rfl ⟨by decide, by decide⟩ ⟨by decide, by decide⟩ hl.1 (Nat.le_of_ble_eq_true rfl) rfl dX6_init_75 rfl (fun L224 σ225 => ?_)
  refine zc_callI (pc' := 81) (rest := [.ref (b0 + x218), .int (16 : Int32), .ref (b0 + q217)]) hNX hC (kX3_init l b0 cA D x218 x221 L224 σ225) tw_1_52 tw_1_50 tw_1_51 tw_1_2 rfl ddX3_init rfl ⟨by decide, by decide⟩ ⟨by decide, by decide⟩ hl.1 (Nat.le_of_ble_eq_true rfl) rfl dX6_init_78 rfl (fun L226 σ227 => ?_)
  refine zc_aast (t := 0) (pc' := 82) hC (by decide) dX6_init_81 rfl (fun σ228 => ?_)
  refine zc_iinc (pc' := 85) (k0 := 0) (v := (17 : Int32)) (lv' := [(1, .int (17 : Int32)), (0, .ref (b0 + v0))]) hC dX6_init_82 rfl hl rfl rfl (by decide) rfl (fun ls hl => ?_)
  refine zc_goto (tgt := 56) hC dX6_init_85 (by decide) ?_
  refine zc_iload_n (pc' := 57) hC dX6_init_56 rfl rfl (lv_at hl 0 rfl) ?_
  refine zc_bipush (pc' := 59) (v := (20 : Int32)) hC dX6_init_57 rfl rfl ?_
  refine zc_geF (tgt := 88) (pc' := 62) hC dX6_init_59 (by decide) rfl (by decide) ?_
  refine zc_aload_n (pc' := 63) hC dX6_init_62 rfl rfl (lv_at hl 1 rfl) ?_
  refine zc_getR (pc' := 66) hC fd_6_3 rfl tw_1_198 dX6_init_63 rfl (fun q229 => ?_)
  refine zc_iload_n (pc' := 67) hC dX6_init_66 rfl rfl (lv_at hl 0 rfl) ?_
  refine zc_new (pc' := 70) hC fd_3_0 nw3 tw_1_25 tw_1_26 tw_1_2 (by decide) (by decide) dX6_init_67 rfl (fun x230 L231 σ232 => ?_)
  refine zc_dup (pc' := 71) hC dX6_init_70 rfl rfl ?_
  refine zc_new (pc' := 74) hC fd_1_0 nw1 tw_1_27 tw_1_28 tw_1_3 (by decide) (by decide) dX6_init_71 rfl (fun x233 L234 σ235 => ?_)
  refine zc_dup (pc' := 75) hC dX6_init_74 rfl rfl ?_
  refine zc_callIN (pc' := 78) (rest := [.ref (b0 + x233), .ref (b0 + x230), .ref (b0 + x230), .int (17 : Int32), .ref (b0 + q229)]) hNX hC (kX1_init l b0 cA D x233 L234 σ235) tw_1_31 hNX.2.2.1 tw_1_30 tw_1_3 rfl ddX1_init rfl ⟨by decide, by decide⟩ ⟨by decide, by decide⟩ hl.1 (Nat.le_of_ble_eq_true rfl) rfl dX6_init_75 rfl (fun L236 σ237 => ?_)
  refine zc_callI (pc' := 81) (rest := [.ref (b0 + x230), .int (17 : Int32), .ref (b0 + q229)]) hNX hC (kX3_init l b0 cA D x230 x233 L236 σ237) tw_1_52 tw_1_50 tw_1_51 tw_1_2 rfl ddX3_init rfl ⟨by decide, by decide⟩ ⟨by decide, by decide⟩ hl.1 (Nat.le_of_ble_eq_true rfl) rfl dX6_init_78 rfl (fun L238 σ239 => ?_)
  refine zc_aast (t := 0) (pc' := 82) hC (by decide) dX6_init_81 rfl (fun σ240 => ?_)
  refine zc_iinc (pc' := 85) (k0 := 0) (v := (18 : Int32)) (lv' := [(1, .int (18 : Int32)), (0, .ref (b0 + v0))]) hC dX6_init_82 rfl hl rfl rfl (by decide) rfl (fun ls hl => ?_)
  refine zc_goto (tgt := 56) hC dX6_init_85 (by decide) ?_
  refine zc_iload_n (pc' := 57) hC dX6_init_56 rfl rfl (lv_at hl 0 rfl) ?_
  refine zc_bipush (pc' := 59) (v := (20 : Int32)) hC dX6_init_57 rfl rfl ?_
  refine zc_geF (tgt := 88) (pc' := 62) hC dX6_init_59 (by decide) rfl (by decide) ?_
  refine zc_aload_n (pc' := 63) hC dX6_init_62 rfl rfl (lv_at hl 1 rfl) ?_
  refine zc_getR (pc' := 66) hC fd_6_3 rfl tw_1_198 dX6_init_63 rfl (fun q241 => ?_)
  refine zc_iload_n (pc' := 67) hC dX6_init_66 rfl rfl (lv_at hl 0 rfl) ?_
  refine zc_new (pc' := 70) hC fd_3_0 nw3 tw_1_25 tw_1_26 tw_1_2 (by decide) (by decide) dX6_init_67 rfl (fun x242 L243 σ244 => ?_)
  refine zc_dup (pc' := 71) hC dX6_init_70 rfl rfl ?_
  refine zc_new (pc' := 74) hC fd_1_0 nw1 tw_1_27 tw_1_28 tw_1_3 (by decide) (by decide) dX6_init_71 rfl (fun x245 L246 σ247 => ?_)
  refine zc_dup (pc' := 75) hC dX6_init_74 rfl rfl ?_
  refine zc_callIN (pc' := 78) (rest := [.ref (b0 + x245), .ref (b0 + x242), .ref (b0 + x242), .int (18 : Int32), .ref (b0 + q241)]) hNX hC (kX1_init l b0 cA D x245 L246 σ247) tw_1_31 hNX.2.2.1 tw_1_30 tw_1_3 rfl ddX1_init rfl ⟨by decide, by decide⟩ ⟨by decide, by decide⟩ hl.1 (Nat.le_of_ble_eq_true rfl) rfl dX6_init_75 rfl (fun L248 σ249 => ?_)
  refine zc_callI (pc' := 81) (rest := [.ref (b0 + x242), .int (18 : Int32), .ref (b0 + q241)]) hNX hC (kX3_init l b0 cA D x242 x245 L248 σ249) tw_1_52 tw_1_50 tw_1_51 tw_1_2 rfl ddX3_init rfl ⟨by decide, by decide⟩ ⟨by decide, by decide⟩ hl.1 (Nat.le_of_ble_eq_true rfl) rfl dX6_init_78 rfl (fun L250 σ251 => ?_)
  refine zc_aast (t := 0) (pc' := 82) hC (by decide) dX6_init_81 rfl (fun σ252 => ?_)
  refine zc_iinc (pc' := 85) (k0 := 0) (v := (19 : Int32)) (lv' := [(1, .int (19 : Int32)), (0, .ref (b0 + v0))]) hC dX6_init_82 rfl hl rfl rfl (by decide) rfl (fun ls hl => ?_)
  refine zc_goto (tgt := 56) hC dX6_init_85 (by decide) ?_
  refine zc_iload_n (pc' := 57) hC dX6_init_56 rfl rfl (lv_at hl 0 rfl) ?_
  refine zc_bipush (pc' := 59) (v := (20 : Int32)) hC dX6_init_57 rfl rfl ?_
  refine zc_geF (tgt := 88) (pc' := 62) hC dX6_init_59 (by decide) rfl (by decide) ?_
  refine zc_aload_n (pc' := 63) hC dX6_init_62 rfl rfl (lv_at hl 1 rfl) ?_
  refine zc_getR (pc' := 66) hC fd_6_3 rfl tw_1_198 dX6_init_63 rfl (fun q253 => ?_)
  refine zc_iload_n (pc' := 67) hC dX6_init_66 rfl rfl (lv_at hl 0 rfl) ?_
  refine zc_new (pc' := 70) hC fd_3_0 nw3 tw_1_25 tw_1_26 tw_1_2 (by decide) (by decide) dX6_init_67 rfl (fun x254 L255 σ256 => ?_)
  refine zc_dup (pc' := 71) hC dX6_init_70 rfl rfl ?_
  refine zc_new (pc' := 74) hC fd_1_0 nw1 tw_1_27 tw_1_28 tw_1_3 (by decide) (by decide) dX6_init_71 rfl (fun x257 L258 σ259 => ?_)
  refine zc_dup (pc' := 75) hC dX6_init_74 rfl rfl ?_
  refine zc_callIN (pc' := 78) (rest := [.ref (b0 + x257), .ref (b0 + x254), .ref (b0 + x254), .int (19 : Int32), .ref (b0 + q253)]) hNX hC (kX1_init l b0 cA D x257 L258 σ259) tw_1_31 hNX.2.2.1 tw_1_30 tw_1_3 rfl ddX1_init rfl ⟨by decide, by decide⟩ ⟨by decide, by decide⟩ hl.1 (Nat.le_of_ble_eq_true rfl) rfl dX6_init_75 rfl (fun L260 σ261 => ?_)
  refine zc_callI (pc' := 81) (rest := [.ref (b0 + x254), .int (19 : Int32), .ref (b0 + q253)]) hNX hC (kX3_init l b0 cA D x254 x257 L260 σ261) tw_1_52 tw_1_50 tw_1_51 tw_1_2 rfl ddX3_init rfl ⟨by decide, by decide⟩ ⟨by decide, by decide⟩ hl.1 (Nat.le_of_ble_eq_true rfl) rfl dX6_init_78 rfl (fun L262 σ263 => ?_)
  refine zc_aast (t := 0) (pc' := 82) hC (by decide) dX6_init_81 rfl (fun σ264 => ?_)
  refine zc_iinc (pc' := 85) (k0 := 0) (v := (20 : Int32)) (lv' := [(1, .int (20 : Int32)), (0, .ref (b0 + v0))]) hC dX6_init_82 rfl hl rfl rfl (by decide) rfl (fun ls hl => ?_)
  refine zc_goto (tgt := 56) hC dX6_init_85 (by decide) ?_
  refine zc_iload_n (pc' := 57) hC dX6_init_56 rfl rfl (lv_at hl 0 rfl) ?_
  refine zc_bipush (pc' := 59) (v := (20 : Int32)) hC dX6_init_57 rfl rfl ?_
  refine zc_geT (tgt := 88) hC dX6_init_59 (by decide) (by decide) ?_
  refine zc_aload_n (pc' := 89) hC dX6_init_88 rfl rfl (lv_at hl 1 rfl) ?_
  refine zc_new (pc' := 92) hC fd_0_0 nw0 tw_1_114 tw_1_115 tw_1_5 (by decide) (by decide) dX6_init_89 rfl (fun x265 L266 σ267 => ?_)
  refine zc_dup (pc' := 93) hC dX6_init_92 rfl rfl ?_
  refine zc_aload_n (pc' := 94) hC dX6_init_93 rfl rfl (lv_at hl 1 rfl) ?_
  refine zc_getR (pc' := 97) hC fd_6_0 rfl tw_1_195 dX6_init_94 rfl (fun q268 => ?_)
  refine zc_getR (pc' := 100) hC fd_3_0 rfl tw_1_93 dX6_init_97 rfl (fun q269 => ?_)
  refine zc_callI (pc' := 103) (rest := [.ref (b0 + x265), .ref (b0 + v0)]) hNX hC (kX0_init l b0 cA D x265 q269 L266 σ267) tw_1_118 tw_1_116 tw_1_117 tw_1_5 rfl ddX0_init rfl ⟨by decide, by decide⟩ ⟨by decide, by decide⟩ hl.1 (Nat.le_of_ble_eq_true rfl) rfl dX6_init_100 rfl (fun L270 σ271 => ?_)
  refine zc_putRF (pc' := 106) hmn hC fd_6_5 rfl tw_1_200 rfl rfl (fun _ => rfl) (fun _ => rfl) dX6_init_103 rfl (fun σ272 => ?_)
  refine zc_aload_n (pc' := 107) hC dX6_init_106 rfl rfl (lv_at hl 1 rfl) ?_
  refine zc_iconst (pc' := 108) (v := (4 : Int32)) hC dX6_init_107 rfl rfl ?_
  refine zc_anew (t := 4) (n := 4) (pc' := 111) hC tw_1_148 hNX.2.1 (by decide) (by decide) (by decide) (by decide) (by decide) (by decide) dX6_init_108 rfl (fun x273 L274 σ275 => ?_)
  refine zc_putRF (pc' := 114) hmn hC fd_6_6 rfl tw_1_201 rfl rfl (fun _ => rfl) (fun _ => rfl) dX6_init_111 rfl (fun σ276 => ?_)
  refine zc_iconst (pc' := 115) (v := (0 : Int32)) hC dX6_init_114 rfl rfl ?_
  refine zc_istore_n (pc' := 116) (lv' := [(1, .int (0 : Int32)), (0, .ref (b0 + v0))]) hC dX6_init_115 rfl rfl hl (by decide) rfl (fun ls hl => ?_)
  refine zc_iload_n (pc' := 117) hC dX6_init_116 rfl rfl (lv_at hl 0 rfl) ?_
  refine zc_iconst (pc' := 118) (v := (4 : Int32)) hC dX6_init_117 rfl rfl ?_
  refine zc_geF (tgt := 140) (pc' := 121) hC dX6_init_118 (by decide) rfl (by decide) ?_
  refine zc_aload_n (pc' := 122) hC dX6_init_121 rfl rfl (lv_at hl 1 rfl) ?_
  refine zc_getR (pc' := 125) hC fd_6_6 rfl tw_1_201 dX6_init_122 rfl (fun q277 => ?_)
  refine zc_iload_n (pc' := 126) hC dX6_init_125 rfl rfl (lv_at hl 0 rfl) ?_
  refine zc_new (pc' := 129) hC fd_4_0 nw4 tw_1_148 tw_1_150 tw_1_6 (by decide) (by decide) dX6_init_126 rfl (fun x278 L279 σ280 => ?_)
  refine zc_dup (pc' := 130) hC dX6_init_129 rfl rfl ?_
  refine zc_callIN (pc' := 133) (rest := [.ref (b0 + x278), .int (0 : Int32), .ref (b0 + q277)]) hNX hC (kX4_init l b0 cA D x278 L279 σ280) tw_1_153 hNX.2.2.2.2 tw_1_152 tw_1_6 rfl ddX4_init rfl ⟨by decide, by decide⟩ ⟨by decide, by decide⟩ hl.1 (Nat.le_of_ble_eq_true rfl) rfl dX6_init_130 rfl (fun L281 σ282 => ?_)
  refine zc_aast (t := 1) (pc' := 134) hC (by decide) dX6_init_133 rfl (fun σ283 => ?_)
  refine zc_iinc (pc' := 137) (k0 := 0) (v := (1 : Int32)) (lv' := [(1, .int (1 : Int32)), (0, .ref (b0 + v0))]) hC dX6_init_134 rfl hl rfl rfl (by decide) rfl (fun ls hl => ?_)
  refine zc_goto (tgt := 116) hC dX6_init_137 (by decide) ?_
  refine zc_iload_n (pc' := 117) hC dX6_init_116 rfl rfl (lv_at hl 0 rfl) ?_
  refine zc_iconst (pc' := 118) (v := (4 : Int32)) hC dX6_init_117 rfl rfl ?_
  refine zc_geF (tgt := 140) (pc' := 121) hC dX6_init_118 (by decide) rfl (by decide) ?_
  refine zc_aload_n (pc' := 122) hC dX6_init_121 rfl rfl (lv_at hl 1 rfl) ?_
  refine zc_getR (pc' := 125) hC fd_6_6 rfl tw_1_201 dX6_init_122 rfl (fun q284 => ?_)
  refine zc_iload_n (pc' := 126) hC dX6_init_125 rfl rfl (lv_at hl 0 rfl) ?_
  refine zc_new (pc' := 129) hC fd_4_0 nw4 tw_1_148 tw_1_150 tw_1_6 (by decide) (by decide) dX6_init_126 rfl (fun x285 L286 σ287 => ?_)
  refine zc_dup (pc' := 130) hC dX6_init_129 rfl rfl ?_
  refine zc_callIN (pc' := 133) (rest := [.ref (b0 + x285), .int (1 : Int32), .ref (b0 + q284)]) hNX hC (kX4_init l b0 cA D x285 L286 σ287) tw_1_153 hNX.2.2.2.2 tw_1_152 tw_1_6 rfl ddX4_init rfl ⟨by decide, by decide⟩ ⟨by decide, by decide⟩ hl.1 (Nat.le_of_ble_eq_true rfl) rfl dX6_init_130 rfl (fun L288 σ289 => ?_)
  refine zc_aast (t := 1) (pc' := 134) hC (by decide) dX6_init_133 rfl (fun σ290 => ?_)
  refine zc_iinc (pc' := 137) (k0 := 0) (v := (2 : Int32)) (lv' := [(1, .int (2 : Int32)), (0, .ref (b0 + v0))]) hC dX6_init_134 rfl hl rfl rfl (by decide) rfl (fun ls hl => ?_)
  refine zc_goto (tgt := 116) hC dX6_init_137 (by decide) ?_
  refine zc_iload_n (pc' := 117) hC dX6_init_116 rfl rfl (lv_at hl 0 rfl) ?_
  refine zc_iconst (pc' := 118) (v := (4 : Int32)) hC dX6_init_117 rfl rfl ?_
  refine zc_geF (tgt := 140) (pc' := 121) hC dX6_init_118 (by decide) rfl (by decide) ?_
  refine zc_aload_n (pc' := 122) hC dX6_init_121 rfl rfl (lv_at hl 1 rfl) ?_
  refine zc_getR (pc' := 125) hC fd_6_6 rfl tw_1_201 dX6_init_122 rfl (fun q291 => ?_)
  refine zc_iload_n (pc' := 126) hC dX6_init_125 rfl rfl (lv_at hl 0 rfl) ?_
  refine zc_new (pc' := 129) hC fd_4_0 nw4 tw_1_148 tw_1_150 tw_1_6 (by decide) (by decide) dX6_init_126 rfl (fun x292 L293 σ294 => ?_)
  refine zc_dup (pc' := 130) hC dX6_init_129 rfl rfl ?_
  refine zc_callIN (pc' := 133) (rest := [.ref (b0 + x292), .int (2 : Int32), .ref (b0 + q291)]) hNX hC (kX4_init l b0 cA D x292 L293 σ294) tw_1_153 hNX.2.2.2.2 tw_1_152 tw_1_6 rfl ddX4_init rfl ⟨by decide, by decide⟩ ⟨by decide, by decide⟩ hl.1 (Nat.le_of_ble_eq_true rfl) rfl dX6_init_130 rfl (fun L295 σ296 => ?_)
  refine zc_aast (t := 1) (pc' := 134) hC (by decide) dX6_init_133 rfl (fun σ297 => ?_)
  refine zc_iinc (pc' := 137) (k0 := 0) (v := (3 : Int32)) (lv' := [(1, .int (3 : Int32)), (0, .ref (b0 + v0))]) hC dX6_init_134 rfl hl rfl rfl (by decide) rfl (fun ls hl => ?_)
  refine zc_goto (tgt := 116) hC dX6_init_137 (by decide) ?_
  refine zc_iload_n (pc' := 117) hC dX6_init_116 rfl rfl (lv_at hl 0 rfl) ?_
  refine zc_iconst (pc' := 118) (v := (4 : Int32)) hC dX6_init_117 rfl rfl ?_
  refine zc_geF (tgt := 140) (pc' := 121) hC dX6_init_118 (by decide) rfl (by decide) ?_
  refine zc_aload_n (pc' := 122) hC dX6_init_121 rfl rfl (lv_at hl 1 rfl) ?_
  refine zc_getR (pc' := 125) hC fd_6_6 rfl tw_1_201 dX6_init_122 rfl (fun q298 => ?_)
  refine zc_iload_n (pc' := 126) hC dX6_init_125 rfl rfl (lv_at hl 0 rfl) ?_
  refine zc_new (pc' := 129) hC fd_4_0 nw4 tw_1_148 tw_1_150 tw_1_6 (by decide) (by decide) dX6_init_126 rfl (fun x299 L300 σ301 => ?_)
  refine zc_dup (pc' := 130) hC dX6_init_129 rfl rfl ?_
  refine zc_callIN (pc' := 133) (rest := [.ref (b0 + x299), .int (3 : Int32), .ref (b0 + q298)]) hNX hC (kX4_init l b0 cA D x299 L300 σ301) tw_1_153 hNX.2.2.2.2 tw_1_152 tw_1_6 rfl ddX4_init rfl ⟨by decide, by decide⟩ ⟨by decide, by decide⟩ hl.1 (Nat.le_of_ble_eq_true rfl) rfl dX6_init_130 rfl (fun L302 σ303 => ?_)
  refine zc_aast (t := 1) (pc' := 134) hC (by decide) dX6_init_133 rfl (fun σ304 => ?_)
  refine zc_iinc (pc' := 137) (k0 := 0) (v := (4 : Int32)) (lv' := [(1, .int (4 : Int32)), (0, .ref (b0 + v0))]) hC dX6_init_134 rfl hl rfl rfl (by decide) rfl (fun ls hl => ?_)
  refine zc_goto (tgt := 116) hC dX6_init_137 (by decide) ?_
  refine zc_iload_n (pc' := 117) hC dX6_init_116 rfl rfl (lv_at hl 0 rfl) ?_
  refine zc_iconst (pc' := 118) (v := (4 : Int32)) hC dX6_init_117 rfl rfl ?_
  refine zc_geT (tgt := 140) hC dX6_init_118 (by decide) (by decide) ?_
  refine zc_aload_n (pc' := 141) hC dX6_init_140 rfl rfl (lv_at hl 1 rfl) ?_
  refine zc_new (pc' := 144) hC fd_4_0 nw4 tw_1_148 tw_1_150 tw_1_6 (by decide) (by decide) dX6_init_141 rfl (fun x305 L306 σ307 => ?_)
  refine zc_dup (pc' := 145) hC dX6_init_144 rfl rfl ?_
  refine zc_callIN (pc' := 148) (rest := [.ref (b0 + x305), .ref (b0 + v0)]) hNX hC (kX4_init l b0 cA D x305 L306 σ307) tw_1_153 hNX.2.2.2.2 tw_1_152 tw_1_6 rfl ddX4_init rfl ⟨by decide, by decide⟩ ⟨by decide, by decide⟩ hl.1 (Nat.le_of_ble_eq_true rfl) rfl dX6_init_145 rfl (fun L308 σ309 => ?_)
  refine zc_putR (pc' := 151) hC fd_6_7 rfl tw_1_202 rfl (fun _ => rfl) (fun _ => rfl) dX6_init_148 rfl (fun σ310 => ?_)
  refine zc_aload_n (pc' := 152) hC dX6_init_151 rfl rfl (lv_at hl 1 rfl) ?_
  refine zc_sipush (pc' := 155) (v := (500 : Int32)) hC dX6_init_152 rfl rfl ?_
  refine zc_newa (atype := .byte) (t := 2) (n := 500) (pc' := 157) hC tw_1_194 (by decide) (by decide) (by decide) (by decide) (by decide) (by decide) dX6_init_155 rfl (fun x311 L312 σ313 => ?_)
  refine zc_putRF (pc' := 160) hmn hC fd_6_9 rfl tw_1_204 rfl rfl (fun _ => rfl) (fun _ => rfl) dX6_init_157 rfl (fun σ314 => ?_)
  refine zc_aload_n (pc' := 161) hC dX6_init_160 rfl rfl (lv_at hl 1 rfl) ?_
  refine zc_new (pc' := 164) hC fd_5_0 nw5 tw_1_169 tw_1_170 tw_1_7 (by decide) (by decide) dX6_init_161 rfl (fun x315 L316 σ317 => ?_)
  refine zc_dup (pc' := 165) hC dX6_init_164 rfl rfl ?_
  refine zc_aload_n (pc' := 166) hC dX6_init_165 rfl rfl (lv_at hl 1 rfl) ?_
  refine zc_getR (pc' := 169) hC fd_6_9 rfl tw_1_204 dX6_init_166 rfl (fun q318 => ?_)
  refine zc_aload_n (pc' := 170) hC dX6_init_169 rfl rfl (lv_at hl 1 rfl) ?_
  refine zc_getR (pc' := 173) hC fd_6_7 rfl tw_1_202 dX6_init_170 rfl (fun q319 => ?_)
  refine zc_callI (pc' := 176) (rest := [.ref (b0 + x315), .ref (b0 + v0)]) hNX hC (kX5_init l b0 cA D x315 q318 q319 L316 σ317) tw_1_173 tw_1_171 tw_1_172 tw_1_7 rfl ddX5_init rfl ⟨by decide, by decide⟩ ⟨by decide, by decide⟩ hl.1 (Nat.le_of_ble_eq_true rfl) rfl dX6_init_173 rfl (fun L320 σ321 => ?_)
  refine zc_putRF (pc' := 179) hmn hC fd_6_8 rfl tw_1_203 rfl rfl (fun _ => rfl) (fun _ => rfl) dX6_init_176 rfl (fun σ322 => ?_)
  refine zc_aload_n (pc' := 180) hC dX6_init_179 rfl rfl (lv_at hl 1 rfl) ?_
  refine zc_bipush (pc' := 182) (v := (40 : Int32)) hC dX6_init_180 rfl rfl ?_
  refine zc_newa (atype := .int) (t := 1) (n := 40) (pc' := 184) hC tw_1_49 (by decide) (by decide) (by decide) (by decide) (by decide) (by decide) dX6_init_182 rfl (fun x323 L324 σ325 => ?_)
  refine zc_putRF (pc' := 187) hmn hC fd_6_11 rfl tw_1_206 rfl rfl (fun _ => rfl) (fun _ => rfl) dX6_init_184 rfl (fun σ326 => ?_)
  refine zc_aload_n (pc' := 188) hC dX6_init_187 rfl rfl (lv_at hl 1 rfl) ?_
  refine zc_bipush (pc' := 190) (v := (40 : Int32)) hC dX6_init_188 rfl rfl ?_
  refine zc_newa (atype := .int) (t := 1) (n := 40) (pc' := 192) hC tw_1_49 (by decide) (by decide) (by decide) (by decide) (by decide) (by decide) dX6_init_190 rfl (fun x327 L328 σ329 => ?_)
  refine zc_putRF (pc' := 195) hmn hC fd_6_12 rfl tw_1_207 rfl rfl (fun _ => rfl) (fun _ => rfl) dX6_init_192 rfl (fun σ330 => ?_)
  refine zc_aload_n (pc' := 196) hC dX6_init_195 rfl rfl (lv_at hl 1 rfl) ?_
  refine zc_iconst (pc' := 197) (v := (1 : Int32)) hC dX6_init_196 rfl rfl ?_
  refine zc_putI (pc' := 200) hC fd_6_13 rfl tw_1_208 rfl rfl rfl dX6_init_197 rfl (fun σ331 => ?_)
  refine zc_aload_n (pc' := 201) hC dX6_init_200 rfl rfl (lv_at hl 1 rfl) ?_
  refine zc_iconst (pc' := 202) (v := (1 : Int32)) hC dX6_init_201 rfl rfl ?_
  refine zc_putI (pc' := 205) hC fd_6_14 rfl tw_1_209 rfl rfl rfl dX6_init_202 rfl (fun σ332 => ?_)
  refine zc_aload_n (pc' := 206) hC dX6_init_205 rfl rfl (lv_at hl 1 rfl) ?_
  refine zc_bipush (pc' := 208) (v := (25 : Int32)) hC dX6_init_206 rfl rfl ?_
  refine zc_newa (atype := .int) (t := 1) (n := 25) (pc' := 210) hC tw_1_49 (by decide) (by decide) (by decide) (by decide) (by decide) (by decide) dX6_init_208 rfl (fun x333 L334 σ335 => ?_)
  refine zc_putRF (pc' := 213) hmn hC fd_6_15 rfl tw_1_210 rfl rfl (fun _ => rfl) (fun _ => rfl) dX6_init_210 rfl (fun σ336 => ?_)
  refine zc_aload_n (pc' := 214) hC dX6_init_213 rfl rfl (lv_at hl 1 rfl) ?_
  refine zc_bipush (pc' := 216) (v := (25 : Int32)) hC dX6_init_214 rfl rfl ?_
  refine zc_newa (atype := .int) (t := 1) (n := 25) (pc' := 218) hC tw_1_49 (by decide) (by decide) (by decide) (by decide) (by decide) (by decide) dX6_init_216 rfl (fun x337 L338 σ339 => ?_)
  refine zc_putRF (pc' := 221) hmn hC fd_6_16 rfl tw_1_211 rfl rfl (fun _ => rfl) (fun _ => rfl) dX6_init_218 rfl (fun σ340 => ?_)
  exact zc_ret hC rfl rfl dX6_init_221
