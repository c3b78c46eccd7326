theorem ddX7_init : yX7_init.cls ≠ "java/lang/invoke/MethodHandle" ∧ yX7_init.cls ≠ "java/lang/invoke/VarHandle" ∧ (parseMethodDescriptor yX7_init.desc).map (fun d => d.parameters.length) = some 0 := by decide +kernel
abbrev rmX7_init : Room := { frames := 1, cells := 35, slots := 25374, locals := 20 }
set_option maxRecDepth 100000 in
def fX7_init (v0 : Nat) (L : List (Nat × Nat)) (σ : zS) : Option zLS :=
  znw L σ (1, 24) (fun (x1 : Nat) (L2 : List (Nat × Nat)) (σ3 : zS) => zQ L2 v0 (0, 7) (zQ L2 x1 (1, 24) (bnd (zR σ3 v0 4 x1) (fun (σ4 : zS) => znw L2 σ4 (1, 24) (fun (x5 : Nat) (L6 : List (Nat × Nat)) (σ7 : zS) => zQ L6 v0 (0, 7) (zQ L6 x5 (1, 24) (bnd (zR σ7 v0 5 x5) (fun (σ8 : zS) => znw L6 σ8 (1, 24) (fun (x9 : Nat) (L10 : List (Nat × Nat)) (σ11 : zS) => zQ L10 v0 (0, 7) (zQ L10 x9 (1, 24) (bnd (zR σ11 v0 6 x9) (fun (σ12 : zS) => znw L10 σ12 (1, 40) (fun (x13 : Nat) (L14 : List (Nat × Nat)) (σ15 : zS) => zQ L14 v0 (0, 7) (zQ L14 x13 (1, 40) (bnd (zR σ15 v0 7 x13) (fun (σ16 : zS) => znw L14 σ16 (1, 40) (fun (x17 : Nat) (L18 : List (Nat × Nat)) (σ19 : zS) => zQ L18 v0 (0, 7) (zQ L18 x17 (1, 40) (bnd (zR σ19 v0 8 x17) (fun (σ20 : zS) => znw L18 σ20 (1, 120) (fun (x21 : Nat) (L22 : List (Nat × Nat)) (σ23 : zS) => zQ L22 v0 (0, 7) (zQ L22 x21 (1, 120) (bnd (zR σ23 v0 9 x21) (fun (σ24 : zS) => znw L22 σ24 (2, 500) (fun (x25 : Nat) (L26 : List (Nat × Nat)) (σ27 : zS) => zQ L26 v0 (0, 7) (zQ L26 x25 (2, 500) (bnd (zR σ27 v0 10 x25) (fun (σ28 : zS) => znw L26 σ28 (1, 140) (fun (x29 : Nat) (L30 : List (Nat × Nat)) (σ31 : zS) => zQ L30 v0 (0, 7) (zQ L30 x29 (1, 140) (bnd (zR σ31 v0 20 x29) (fun (σ32 : zS) => znw L30 σ32 (1, 140) (fun (x33 : Nat) (L34 : List (Nat × Nat)) (σ35 : zS) => zQ L34 v0 (0, 7) (zQ L34 x33 (1, 140) (bnd (zR σ35 v0 21 x33) (fun (σ36 : zS) => znw L34 σ36 (1, 12) (fun (x37 : Nat) (L38 : List (Nat × Nat)) (σ39 : zS) => zQ L38 v0 (0, 7) (zQ L38 x37 (1, 12) (bnd (zR σ39 v0 22 x37) (fun (σ40 : zS) => znw L38 σ40 (1, 12) (fun (x41 : Nat) (L42 : List (Nat × Nat)) (σ43 : zS) => zQ L42 v0 (0, 7) (zQ L42 x41 (1, 12) (bnd (zR σ43 v0 23 x41) (fun (σ44 : zS) => znw L42 σ44 (1, 12) (fun (x45 : Nat) (L46 : List (Nat × Nat)) (σ47 : zS) => zQ L46 v0 (0, 7) (zQ L46 x45 (1, 12) (bnd (zR σ47 v0 24 x45) (fun (σ48 : zS) => znw L46 σ48 (1, 560) (fun (x49 : Nat) (L50 : List (Nat × Nat)) (σ51 : zS) => zQ L50 v0 (0, 7) (zQ L50 x49 (1, 560) (bnd (zR σ51 v0 25 x49) (fun (σ52 : zS) => znw L50 σ52 (1, 4) (fun (x53 : Nat) (L54 : List (Nat × Nat)) (σ55 : zS) => zQ L54 v0 (0, 7) (zQ L54 x53 (1, 4) (bnd (zR σ55 v0 26 x53) (fun (σ56 : zS) => znw L54 σ56 (1, 48) (fun (x57 : Nat) (L58 : List (Nat × Nat)) (σ59 : zS) => zQ L58 v0 (0, 7) (zQ L58 x57 (1, 48) (bnd (zR σ59 v0 27 x57) (fun (σ60 : zS) => znw L58 σ60 (1, 48) (fun (x61 : Nat) (L62 : List (Nat × Nat)) (σ63 : zS) => zQ L62 v0 (0, 7) (zQ L62 x61 (1, 48) (bnd (zR σ63 v0 28 x61) (fun (σ64 : zS) => znw L62 σ64 (1, 48) (fun (x65 : Nat) (L66 : List (Nat × Nat)) (σ67 : zS) => zQ L66 v0 (0, 7) (zQ L66 x65 (1, 48) (bnd (zR σ67 v0 29 x65) (fun (σ68 : zS) => znw L66 σ68 (1, 140) (fun (x69 : Nat) (L70 : List (Nat × Nat)) (σ71 : zS) => zQ L70 v0 (0, 7) (zQ L70 x69 (1, 140) (bnd (zR σ71 v0 30 x69) (fun (σ72 : zS) => znw L70 σ72 (1, 12) (fun (x73 : Nat) (L74 : List (Nat × Nat)) (σ75 : zS) => zQ L74 v0 (0, 7) (zQ L74 x73 (1, 12) (bnd (zR σ75 v0 31 x73) (fun (σ76 : zS) => znw L74 σ76 (1, 960) (fun (x77 : Nat) (L78 : List (Nat × Nat)) (σ79 : zS) => zQ L78 v0 (0, 7) (zQ L78 x77 (1, 960) (bnd (zR σ79 v0 32 x77) (fun (σ80 : zS) => znw L78 σ80 (1, 24) (fun (x81 : Nat) (L82 : List (Nat × Nat)) (σ83 : zS) => zQ L82 v0 (0, 7) (zQ L82 x81 (1, 24) (bnd (zR σ83 v0 35 x81) (fun (σ84 : zS) => znw L82 σ84 (1, 50) (fun (x85 : Nat) (L86 : List (Nat × Nat)) (σ87 : zS) => zQ L86 v0 (0, 7) (zQ L86 x85 (1, 50) (bnd (zR σ87 v0 38 x85) (fun (σ88 : zS) => znw L86 σ88 (1, 19200) (fun (x89 : Nat) (L90 : List (Nat × Nat)) (σ91 : zS) => zQ L90 v0 (0, 7) (zQ L90 x89 (1, 19200) (bnd (zR σ91 v0 40 x89) (fun (σ92 : zS) => znw L90 σ92 (1, 480) (fun (x93 : Nat) (L94 : List (Nat × Nat)) (σ95 : zS) => zQ L94 v0 (0, 7) (zQ L94 x93 (1, 480) (bnd (zR σ95 v0 41 x93) (fun (σ96 : zS) => znw L94 σ96 (1, 480) (fun (x97 : Nat) (L98 : List (Nat × Nat)) (σ99 : zS) => zQ L98 v0 (0, 7) (zQ L98 x97 (1, 480) (bnd (zR σ99 v0 42 x97) (fun (σ100 : zS) => znw L98 σ100 (1, 480) (fun (x101 : Nat) (L102 : List (Nat × Nat)) (σ103 : zS) => zQ L102 v0 (0, 7) (zQ L102 x101 (1, 480) (bnd (zR σ103 v0 43 x101) (fun (σ104 : zS) => znw L102 σ104 (1, 800) (fun (x105 : Nat) (L106 : List (Nat × Nat)) (σ107 : zS) => zQ L106 v0 (0, 7) (zQ L106 x105 (1, 800) (bnd (zR σ107 v0 44 x105) (fun (σ108 : zS) => znw L106 σ108 (1, 800) (fun (x109 : Nat) (L110 : List (Nat × Nat)) (σ111 : zS) => zQ L110 v0 (0, 7) (zQ L110 x109 (1, 800) (bnd (zR σ111 v0 45 x109) (fun (σ112 : zS) => znw L110 σ112 (1, 20) (fun (x113 : Nat) (L114 : List (Nat × Nat)) (σ115 : zS) => zQ L114 v0 (0, 7) (zQ L114 x113 (1, 20) (bnd (zR σ115 v0 46 x113) (fun (σ116 : zS) => znw L114 σ116 (1, 20) (fun (x117 : Nat) (L118 : List (Nat × Nat)) (σ119 : zS) => zQ L118 v0 (0, 7) (zQ L118 x117 (1, 20) (bnd (zR σ119 v0 47 x117) (fun (σ120 : zS) => znw L118 σ120 (1, 20) (fun (x121 : Nat) (L122 : List (Nat × Nat)) (σ123 : zS) => zQ L122 v0 (0, 7) (zQ L122 x121 (1, 20) (bnd (zR σ123 v0 48 x121) (fun (σ124 : zS) => znw L122 σ124 (1, 20) (fun (x125 : Nat) (L126 : List (Nat × Nat)) (σ127 : zS) => zQ L126 v0 (0, 7) (zQ L126 x125 (1, 20) (bnd (zR σ127 v0 49 x125) (fun (σ128 : zS) => znw L126 σ128 (1, 24) (fun (x129 : Nat) (L130 : List (Nat × Nat)) (σ131 : zS) => zQ L130 v0 (0, 7) (zQ L130 x129 (1, 24) (bnd (zR σ131 v0 50 x129) (fun (σ132 : zS) => znw L130 σ132 (1, 24) (fun (x133 : Nat) (L134 : List (Nat × Nat)) (σ135 : zS) => zQ L134 v0 (0, 7) (zQ L134 x133 (1, 24) (bnd (zR σ135 v0 51 x133) (fun (σ136 : zS) => znw L134 σ136 (1, 24) (fun (x137 : Nat) (L138 : List (Nat × Nat)) (σ139 : zS) => zQ L138 v0 (0, 7) (zQ L138 x137 (1, 24) (bnd (zR σ139 v0 52 x137) (fun (σ140 : zS) => zQ L138 v0 (0, 7) (zQ L138 (σ140.2 v0 4) (1, 24) (bnd (σ140.2 v0 4) (fun (q141 : Nat) => zQ L138 q141 (1, 24) (zX (0 : Int32) 24 (bnd (zI σ140 q141 ((0 : Int32)).toNatClampNeg (-1 : Int32)) (fun (σ142 : zS) => zQ L138 v0 (0, 7) (zQ L138 (σ142.2 v0 4) (1, 24) (bnd (σ142.2 v0 4) (fun (q143 : Nat) => zQ L138 q143 (1, 24) (zX (1 : Int32) 24 (bnd (zI σ142 q143 ((1 : Int32)).toNatClampNeg (-1 : Int32)) (fun (σ144 : zS) => zQ L138 v0 (0, 7) (zQ L138 (σ144.2 v0 4) (1, 24) (bnd (σ144.2 v0 4) (fun (q145 : Nat) => zQ L138 q145 (1, 24) (zX (2 : Int32) 24 (bnd (zI σ144 q145 ((2 : Int32)).toNatClampNeg (-1 : Int32)) (fun (σ146 : zS) => zQ L138 v0 (0, 7) (zQ L138 (σ146.2 v0 4) (1, 24) (bnd (σ146.2 v0 4) (fun (q147 : Nat) => zQ L138 q147 (1, 24) (zX (3 : Int32) 24 (bnd (zI σ146 q147 ((3 : Int32)).toNatClampNeg (-1 : Int32)) (fun (σ148 : zS) => zQ L138 v0 (0, 7) (zQ L138 (σ148.2 v0 4) (1, 24) (bnd (σ148.2 v0 4) (fun (q149 : Nat) => zQ L138 q149 (1, 24) (zX (4 : Int32) 24 (bnd (zI σ148 q149 ((4 : Int32)).toNatClampNeg (-1 : Int32)) (fun (σ150 : zS) => zQ L138 v0 (0, 7) (zQ L138 (σ150.2 v0 4) (1, 24) (bnd (σ150.2 v0 4) (fun (q151 : Nat) => zQ L138 q151 (1, 24) (zX (5 : Int32) 24 (bnd (zI σ150 q151 ((5 : Int32)).toNatClampNeg (-1 : Int32)) (fun (σ152 : zS) => zQ L138 v0 (0, 7) (zQ L138 (σ152.2 v0 4) (1, 24) (bnd (σ152.2 v0 4) (fun (q153 : Nat) => zQ L138 q153 (1, 24) (zX (6 : Int32) 24 (bnd (zI σ152 q153 ((6 : Int32)).toNatClampNeg (-1 : Int32)) (fun (σ154 : zS) => zQ L138 v0 (0, 7) (zQ L138 (σ154.2 v0 4) (1, 24) (bnd (σ154.2 v0 4) (fun (q155 : Nat) => zQ L138 q155 (1, 24) (zX (7 : Int32) 24 (bnd (zI σ154 q155 ((7 : Int32)).toNatClampNeg (-1 : Int32)) (fun (σ156 : zS) => zQ L138 v0 (0, 7) (zQ L138 (σ156.2 v0 4) (1, 24) (bnd (σ156.2 v0 4) (fun (q157 : Nat) => zQ L138 q157 (1, 24) (zX (8 : Int32) 24 (bnd (zI σ156 q157 ((8 : Int32)).toNatClampNeg (-1 : Int32)) (fun (σ158 : zS) => zQ L138 v0 (0, 7) (zQ L138 (σ158.2 v0 4) (1, 24) (bnd (σ158.2 v0 4) (fun (q159 : Nat) => zQ L138 q159 (1, 24) (zX (9 : Int32) 24 (bnd (zI σ158 q159 ((9 : Int32)).toNatClampNeg (-1 : Int32)) (fun (σ160 : zS) => zQ L138 v0 (0, 7) (zQ L138 (σ160.2 v0 4) (1, 24) (bnd (σ160.2 v0 4) (fun (q161 : Nat) => zQ L138 q161 (1, 24) (zX (10 : Int32) 24 (bnd (zI σ160 q161 ((10 : Int32)).toNatClampNeg (-1 : Int32)) (fun (σ162 : zS) => zQ L138 v0 (0, 7) (zQ L138 (σ162.2 v0 4) (1, 24) (bnd (σ162.2 v0 4) (fun (q163 : Nat) => zQ L138 q163 (1, 24) (zX (11 : Int32) 24 (bnd (zI σ162 q163 ((11 : Int32)).toNatClampNeg (-1 : Int32)) (fun (σ164 : zS) => zQ L138 v0 (0, 7) (zQ L138 (σ164.2 v0 4) (1, 24) (bnd (σ164.2 v0 4) (fun (q165 : Nat) => zQ L138 q165 (1, 24) (zX (12 : Int32) 24 (bnd (zI σ164 q165 ((12 : Int32)).toNatClampNeg (-1 : Int32)) (fun (σ166 : zS) => zQ L138 v0 (0, 7) (zQ L138 (σ166.2 v0 4) (1, 24) (bnd (σ166.2 v0 4) (fun (q167 : Nat) => zQ L138 q167 (1, 24) (zX (13 : Int32) 24 (bnd (zI σ166 q167 ((13 : Int32)).toNatClampNeg (-1 : Int32)) (fun (σ168 : zS) => zQ L138 v0 (0, 7) (zQ L138 (σ168.2 v0 4) (1, 24) (bnd (σ168.2 v0 4) (fun (q169 : Nat) => zQ L138 q169 (1, 24) (zX (14 : Int32) 24 (bnd (zI σ168 q169 ((14 : Int32)).toNatClampNeg (-1 : Int32)) (fun (σ170 : zS) => zQ L138 v0 (0, 7) (zQ L138 (σ170.2 v0 4) (1, 24) (bnd (σ170.2 v0 4) (fun (q171 : Nat) => zQ L138 q171 (1, 24) (zX (15 : Int32) 24 (bnd (zI σ170 q171 ((15 : Int32)).toNatClampNeg (-1 : Int32)) (fun (σ172 : zS) => zQ L138 v0 (0, 7) (zQ L138 (σ172.2 v0 4) (1, 24) (bnd (σ172.2 v0 4) (fun (q173 : Nat) => zQ L138 q173 (1, 24) (zX (16 : Int32) 24 (bnd (zI σ172 q173 ((16 : Int32)).toNatClampNeg (-1 : Int32)) (fun (σ174 : zS) => zQ L138 v0 (0, 7) (zQ L138 (σ174.2 v0 4) (1, 24) (bnd (σ174.2 v0 4) (fun (q175 : Nat) => zQ L138 q175 (1, 24) (zX (17 : Int32) 24 (bnd (zI σ174 q175 ((17 : Int32)).toNatClampNeg (-1 : Int32)) (fun (σ176 : zS) => zQ L138 v0 (0, 7) (zQ L138 (σ176.2 v0 4) (1, 24) (bnd (σ176.2 v0 4) (fun (q177 : Nat) => zQ L138 q177 (1, 24) (zX (18 : Int32) 24 (bnd (zI σ176 q177 ((18 : Int32)).toNatClampNeg (-1 : Int32)) (fun (σ178 : zS) => zQ L138 v0 (0, 7) (zQ L138 (σ178.2 v0 4) (1, 24) (bnd (σ178.2 v0 4) (fun (q179 : Nat) => zQ L138 q179 (1, 24) (zX (19 : Int32) 24 (bnd (zI σ178 q179 ((19 : Int32)).toNatClampNeg (-1 : Int32)) (fun (σ180 : zS) => zQ L138 v0 (0, 7) (zQ L138 (σ180.2 v0 4) (1, 24) (bnd (σ180.2 v0 4) (fun (q181 : Nat) => zQ L138 q181 (1, 24) (zX (20 : Int32) 24 (bnd (zI σ180 q181 ((20 : Int32)).toNatClampNeg (-1 : Int32)) (fun (σ182 : zS) => zQ L138 v0 (0, 7) (zQ L138 (σ182.2 v0 4) (1, 24) (bnd (σ182.2 v0 4) (fun (q183 : Nat) => zQ L138 q183 (1, 24) (zX (21 : Int32) 24 (bnd (zI σ182 q183 ((21 : Int32)).toNatClampNeg (-1 : Int32)) (fun (σ184 : zS) => zQ L138 v0 (0, 7) (zQ L138 (σ184.2 v0 4) (1, 24) (bnd (σ184.2 v0 4) (fun (q185 : Nat) => zQ L138 q185 (1, 24) (zX (22 : Int32) 24 (bnd (zI σ184 q185 ((22 : Int32)).toNatClampNeg (-1 : Int32)) (fun (σ186 : zS) => zQ L138 v0 (0, 7) (zQ L138 (σ186.2 v0 4) (1, 24) (bnd (σ186.2 v0 4) (fun (q187 : Nat) => zQ L138 q187 (1, 24) (zX (23 : Int32) 24 (bnd (zI σ186 q187 ((23 : Int32)).toNatClampNeg (-1 : Int32)) (fun (σ188 : zS) => zQ L138 v0 (0, 7) (bnd (zI σ188 v0 0 (6 : Int32)) (fun (σ189 : zS) => zQ L138 v0 (0, 7) (bnd (zI σ189 v0 1 (1 : Int32)) (fun (σ190 : zS) => zQ L138 v0 (0, 7) (bnd (zI σ190 v0 2 (1 : Int32)) (fun (σ191 : zS) => zQ L138 v0 (0, 7) (bnd (zI σ191 v0 3 (1 : Int32)) (fun (σ192 : zS) => some (L138, σ192)))))))))))))))))))))))))))))))))))))))))))))))))))))))))))))))))))))))))))))))))))))))))))))))))))))))))))))))))))))))))))))))))))))))))))))))))))))))))))))))))))))))))))))))))))))))))))))))))))))))))))))))))))))))))))))))))))))))))))))))))))))))))))))))))))))))))))))))))))))))))))))))))))))
set_option maxRecDepth 100000 in
set_option maxHeartbeats 4000000 in
theorem kX7_init (l : Launch) (b0 : Nat) (cA : Nat → ClassId) (D : va_G) (v0 : Nat) (L : List (Nat × Nat)) (σ : zS) : zMc l b0 cA D yX7_init (Cond.code yX7_init cX7_init 2 none) rmX7_init [.ref (b0 + v0)] L σ (fX7_init v0 L σ) := by
  refine zMc_of (by decide) rfl (Nat.le_of_ble_eq_true rfl) ?_
  intro p e s m below meth c ls hNX hmn hC hl
  have hl : lv_has ls 2 [(0, .ref (b0 + v0))] := hl
  generalize ([.ref (b0 + v0)] : List Value).toArray = args at hC ⊢
  unfold fX7_init
  refine zc_aload_n (pc' := 1) hC dX7_init_0 rfl rfl (lv_at hl 0 rfl) ?_
  refine zc_objInit (pc' := 4) hC tw_4_47 tw_1_23 tw_1_24 hl.1 dX7_init_1 rfl (by decide) (Nat.le_of_ble_eq_true rfl) ?_
  refine zc_aload_n (pc' := 5) hC dX7_init_4 rfl rfl (lv_at hl 0 rfl) ?_
  refine zc_bipush (pc' := 7) (v := (24 : Int32)) hC dX7_init_5 rfl rfl ?_
  refine zc_newa (atype := .int) (t := 1) (n := 24) (pc' := 9) hC tw_1_49 (by decide) (by decide) (by decide) (by decide) (by decide) (by decide) dX7_init_7 rfl (fun x1 L2 σ3 => ?_)
  refine zc_putRF (pc' := 12) hmn hC fd_7_4 rfl tw_4_52 rfl rfl (fun _ => rfl) (fun _ => rfl) dX7_init_9 rfl (fun σ4 => ?_)
  refine zc_aload_n (pc' := 13) hC dX7_init_12 rfl rfl (lv_at hl 0 rfl) ?_
  refine zc_bipush (pc' := 15) (v := (24 : Int32)) hC dX7_init_13 rfl rfl ?_
  refine zc_newa (atype := .int) (t := 1) (n := 24) (pc' := 17) hC tw_1_49 (by decide) (by decide) (by decide) (by decide) (by decide) (by decide) dX7_init_15 rfl (fun x5 L6 σ7 => ?_)
  refine zc_putRF (pc' := 20) hmn hC fd_7_5 rfl tw_4_53 rfl rfl (fun _ => rfl) (fun _ => rfl) dX7_init_17 rfl (fun σ8 => ?_)
  refine zc_aload_n (pc' := 21) hC dX7_init_20 rfl rfl (lv_at hl 0 rfl) ?_
  refine zc_bipush (pc' := 23) (v := (24 : Int32)) hC dX7_init_21 rfl rfl ?_
  refine zc_newa (atype := .int) (t := 1) (n := 24) (pc' := 25) hC tw_1_49 (by decide) (by decide) (by decide) (by decide) (by decide) (by decide) dX7_init_23 rfl (fun x9 L10 σ11 => ?_)
  refine zc_putRF (pc' := 28) hmn hC fd_7_6 rfl tw_4_54 rfl rfl (fun _ => rfl) (fun _ => rfl) dX7_init_25 rfl (fun σ12 => ?_)
  refine zc_aload_n (pc' := 29) hC dX7_init_28 rfl rfl (lv_at hl 0 rfl) ?_
  refine zc_bipush (pc' := 31) (v := (40 : Int32)) hC dX7_init_29 rfl rfl ?_
  refine zc_newa (atype := .int) (t := 1) (n := 40) (pc' := 33) hC tw_1_49 (by decide) (by decide) (by decide) (by decide) (by decide) (by decide) dX7_init_31 rfl (fun x13 L14 σ15 => ?_)
  refine zc_putRF (pc' := 36) hmn hC fd_7_7 rfl tw_4_55 rfl rfl (fun _ => rfl) (fun _ => rfl) dX7_init_33 rfl (fun σ16 => ?_)
  refine zc_aload_n (pc' := 37) hC dX7_init_36 rfl rfl (lv_at hl 0 rfl) ?_
  refine zc_bipush (pc' := 39) (v := (40 : Int32)) hC dX7_init_37 rfl rfl ?_
  refine zc_newa (atype := .int) (t := 1) (n := 40) (pc' := 41) hC tw_1_49 (by decide) (by decide) (by decide) (by decide) (by decide) (by decide) dX7_init_39 rfl (fun x17 L18 σ19 => ?_)
  refine zc_putRF (pc' := 44) hmn hC fd_7_8 rfl tw_4_56 rfl rfl (fun _ => rfl) (fun _ => rfl) dX7_init_41 rfl (fun σ20 => ?_)
  refine zc_aload_n (pc' := 45) hC dX7_init_44 rfl rfl (lv_at hl 0 rfl) ?_
  refine zc_bipush (pc' := 47) (v := (120 : Int32)) hC dX7_init_45 rfl rfl ?_
  refine zc_newa (atype := .int) (t := 1) (n := 120) (pc' := 49) hC tw_1_49 (by decide) (by decide) (by decide) (by decide) (by decide) (by decide) dX7_init_47 rfl (fun x21 L22 σ23 => ?_)
  refine zc_putRF (pc' := 52) hmn hC fd_7_9 rfl tw_4_57 rfl rfl (fun _ => rfl) (fun _ => rfl) dX7_init_49 rfl (fun σ24 => ?_)
  refine zc_aload_n (pc' := 53) hC dX7_init_52 rfl rfl (lv_at hl 0 rfl) ?_
  refine zc_sipush (pc' := 56) (v := (500 : Int32)) hC dX7_init_53 rfl rfl ?_
  refine zc_newa (atype := .byte) (t := 2) (n := 500) (pc' := 58) hC tw_1_194 (by decide) (by decide) (by decide) (by decide) (by decide) (by decide) dX7_init_56 rfl (fun x25 L26 σ27 => ?_)
  refine zc_putRF (pc' := 61) hmn hC fd_7_10 rfl tw_4_58 rfl rfl (fun _ => rfl) (fun _ => rfl) dX7_init_58 rfl (fun σ28 => ?_)
  refine zc_aload_n (pc' := 62) hC dX7_init_61 rfl rfl (lv_at hl 0 rfl) ?_
  refine zc_sipush (pc' := 65) (v := (140 : Int32)) hC dX7_init_62 rfl rfl ?_
  refine zc_newa (atype := .int) (t := 1) (n := 140) (pc' := 67) hC tw_1_49 (by decide) (by decide) (by decide) (by decide) (by decide) (by decide) dX7_init_65 rfl (fun x29 L30 σ31 => ?_)
  refine zc_putRF (pc' := 70) hmn hC fd_7_20 rfl tw_4_68 rfl rfl (fun _ => rfl) (fun _ => rfl) dX7_init_67 rfl (fun σ32 => ?_)
  refine zc_aload_n (pc' := 71) hC dX7_init_70 rfl rfl (lv_at hl 0 rfl) ?_
  refine zc_sipush (pc' := 74) (v := (140 : Int32)) hC dX7_init_71 rfl rfl ?_
  refine zc_newa (atype := .int) (t := 1) (n := 140) (pc' := 76) hC tw_1_49 (by decide) (by decide) (by decide) (by decide) (by decide) (by decide) dX7_init_74 rfl (fun x33 L34 σ35 => ?_)
  refine zc_putRF (pc' := 79) hmn hC fd_7_21 rfl tw_4_69 rfl rfl (fun _ => rfl) (fun _ => rfl) dX7_init_76 rfl (fun σ36 => ?_)
  refine zc_aload_n (pc' := 80) hC dX7_init_79 rfl rfl (lv_at hl 0 rfl) ?_
  refine zc_bipush (pc' := 82) (v := (12 : Int32)) hC dX7_init_80 rfl rfl ?_
  refine zc_newa (atype := .int) (t := 1) (n := 12) (pc' := 84) hC tw_1_49 (by decide) (by decide) (by decide) (by decide) (by decide) (by decide) dX7_init_82 rfl (fun x37 L38 σ39 => ?_)
  refine zc_putRF (pc' := 87) hmn hC fd_7_22 rfl tw_4_70 rfl rfl (fun _ => rfl) (fun _ => rfl) dX7_init_84 rfl (fun σ40 => ?_)
  refine zc_aload_n (pc' := 88) hC dX7_init_87 rfl rfl (lv_at hl 0 rfl) ?_
  refine zc_bipush (pc' := 90) (v := (12 : Int32)) hC dX7_init_88 rfl rfl ?_
  refine zc_newa (atype := .int) (t := 1) (n := 12) (pc' := 92) hC tw_1_49 (by decide) (by decide) (by decide) (by decide) (by decide) (by decide) dX7_init_90 rfl (fun x41 L42 σ43 => ?_)
  refine zc_putRF (pc' := 95) hmn hC fd_7_23 rfl tw_4_71 rfl rfl (fun _ => rfl) (fun _ => rfl) dX7_init_92 rfl (fun σ44 => ?_)
  refine zc_aload_n (pc' := 96) hC dX7_init_95 rfl rfl (lv_at hl 0 rfl) ?_
  refine zc_bipush (pc' := 98) (v := (12 : Int32)) hC dX7_init_96 rfl rfl ?_
  refine zc_newa (atype := .int) (t := 1) (n := 12) (pc' := 100) hC tw_1_49 (by decide) (by decide) (by decide) (by decide) (by decide) (by decide) dX7_init_98 rfl (fun x45 L46 σ47 => ?_)
  refine zc_putRF (pc' := 103) hmn hC fd_7_24 rfl tw_4_72 rfl rfl (fun _ => rfl) (fun _ => rfl) dX7_init_100 rfl (fun σ48 => ?_)
  refine zc_aload_n (pc' := 104) hC dX7_init_103 rfl rfl (lv_at hl 0 rfl) ?_
  refine zc_sipush (pc' := 107) (v := (560 : Int32)) hC dX7_init_104 rfl rfl ?_
  refine zc_newa (atype := .int) (t := 1) (n := 560) (pc' := 109) hC tw_1_49 (by decide) (by decide) (by decide) (by decide) (by decide) (by decide) dX7_init_107 rfl (fun x49 L50 σ51 => ?_)
  refine zc_putRF (pc' := 112) hmn hC fd_7_25 rfl tw_4_73 rfl rfl (fun _ => rfl) (fun _ => rfl) dX7_init_109 rfl (fun σ52 => ?_)
  refine zc_aload_n (pc' := 113) hC dX7_init_112 rfl rfl (lv_at hl 0 rfl) ?_
  refine zc_iconst (pc' := 114) (v := (4 : Int32)) hC dX7_init_113 rfl rfl ?_
  refine zc_newa (atype := .int) (t := 1) (n := 4) (pc' := 116) hC tw_1_49 (by decide) (by decide) (by decide) (by decide) (by decide) (by decide) dX7_init_114 rfl (fun x53 L54 σ55 => ?_)
  refine zc_putRF (pc' := 119) hmn hC fd_7_26 rfl tw_4_74 rfl rfl (fun _ => rfl) (fun _ => rfl) dX7_init_116 rfl (fun σ56 => ?_)
  refine zc_aload_n (pc' := 120) hC dX7_init_119 rfl rfl (lv_at hl 0 rfl) ?_
  refine zc_bipush (pc' := 122) (v := (48 : Int32)) hC dX7_init_120 rfl rfl ?_
  refine zc_newa (atype := .int) (t := 1) (n := 48) (pc' := 124) hC tw_1_49 (by decide) (by decide) (by decide) (by decide) (by decide) (by decide) dX7_init_122 rfl (fun x57 L58 σ59 => ?_)
  refine zc_putRF (pc' := 127) hmn hC fd_7_27 rfl tw_4_75 rfl rfl (fun _ => rfl) (fun _ => rfl) dX7_init_124 rfl (fun σ60 => ?_)
  refine zc_aload_n (pc' := 128) hC dX7_init_127 rfl rfl (lv_at hl 0 rfl) ?_
  refine zc_bipush (pc' := 130) (v := (48 : Int32)) hC dX7_init_128 rfl rfl ?_
  refine zc_newa (atype := .int) (t := 1) (n := 48) (pc' := 132) hC tw_1_49 (by decide) (by decide) (by decide) (by decide) (by decide) (by decide) dX7_init_130 rfl (fun x61 L62 σ63 => ?_)
  refine zc_putRF (pc' := 135) hmn hC fd_7_28 rfl tw_4_76 rfl rfl (fun _ => rfl) (fun _ => rfl) dX7_init_132 rfl (fun σ64 => ?_)
  refine zc_aload_n (pc' := 136) hC dX7_init_135 rfl rfl (lv_at hl 0 rfl) ?_
  refine zc_bipush (pc' := 138) (v := (48 : Int32)) hC dX7_init_136 rfl rfl ?_
  refine zc_newa (atype := .int) (t := 1) (n := 48) (pc' := 140) hC tw_1_49 (by decide) (by decide) (by decide) (by decide) (by decide) (by decide) dX7_init_138 rfl (fun x65 L66 σ67 => ?_)
  refine zc_putRF (pc' := 143) hmn hC fd_7_29 rfl tw_4_77 rfl rfl (fun _ => rfl) (fun _ => rfl) dX7_init_140 rfl (fun σ68 => ?_)
  refine zc_aload_n (pc' := 144) hC dX7_init_143 rfl rfl (lv_at hl 0 rfl) ?_
  refine zc_sipush (pc' := 147) (v := (140 : Int32)) hC dX7_init_144 rfl rfl ?_
  refine zc_newa (atype := .int) (t := 1) (n := 140) (pc' := 149) hC tw_1_49 (by decide) (by decide) (by decide) (by decide) (by decide) (by decide) dX7_init_147 rfl (fun x69 L70 σ71 => ?_)
  refine zc_putRF (pc' := 152) hmn hC fd_7_30 rfl tw_4_78 rfl rfl (fun _ => rfl) (fun _ => rfl) dX7_init_149 rfl (fun σ72 => ?_)
  refine zc_aload_n (pc' := 153) hC dX7_init_152 rfl rfl (lv_at hl 0 rfl) ?_
  refine zc_bipush (pc' := 155) (v := (12 : Int32)) hC dX7_init_153 rfl rfl ?_
  refine zc_newa (atype := .int) (t := 1) (n := 12) (pc' := 157) hC tw_1_49 (by decide) (by decide) (by decide) (by decide) (by decide) (by decide) dX7_init_155 rfl (fun x73 L74 σ75 => ?_)
  refine zc_putRF (pc' := 160) hmn hC fd_7_31 rfl tw_4_79 rfl rfl (fun _ => rfl) (fun _ => rfl) dX7_init_157 rfl (fun σ76 => ?_)
  refine zc_aload_n (pc' := 161) hC dX7_init_160 rfl rfl (lv_at hl 0 rfl) ?_
  refine zc_sipush (pc' := 164) (v := (960 : Int32)) hC dX7_init_161 rfl rfl ?_
  refine zc_newa (atype := .int) (t := 1) (n := 960) (pc' := 166) hC tw_1_49 (by decide) (by decide) (by decide) (by decide) (by decide) (by decide) dX7_init_164 rfl (fun x77 L78 σ79 => ?_)
  refine zc_putRF (pc' := 169) hmn hC fd_7_32 rfl tw_4_80 rfl rfl (fun _ => rfl) (fun _ => rfl) dX7_init_166 rfl (fun σ80 => ?_)
  refine zc_aload_n (pc' := 170) hC dX7_init_169 rfl rfl (lv_at hl 0 rfl) ?_
  refine zc_bipush (pc' := 172) (v := (24 : Int32)) hC dX7_init_170 rfl rfl ?_
  refine zc_newa (atype := .int) (t := 1) (n := 24) (pc' := 174) hC tw_1_49 (by decide) (by decide) (by decide) (by decide) (by decide) (by decide) dX7_init_172 rfl (fun x81 L82 σ83 => ?_)
  refine zc_putRF (pc' := 177) hmn hC fd_7_35 rfl tw_4_83 rfl rfl (fun _ => rfl) (fun _ => rfl) dX7_init_174 rfl (fun σ84 => ?_)
  refine zc_aload_n (pc' := 178) hC dX7_init_177 rfl rfl (lv_at hl 0 rfl) ?_
  refine zc_bipush (pc' := 180) (v := (50 : Int32)) hC dX7_init_178 rfl rfl ?_
  refine zc_newa (atype := .int) (t := 1) (n := 50) (pc' := 182) hC tw_1_49 (by decide) (by decide) (by decide) (by decide) (by decide) (by decide) dX7_init_180 rfl (fun x85 L86 σ87 => ?_)
  refine zc_putRF (pc' := 185) hmn hC fd_7_38 rfl tw_4_86 rfl rfl (fun _ => rfl) (fun _ => rfl) dX7_init_182 rfl (fun σ88 => ?_)
  refine zc_aload_n (pc' := 186) hC dX7_init_185 rfl rfl (lv_at hl 0 rfl) ?_
  refine zc_sipush (pc' := 189) (v := (19200 : Int32)) hC dX7_init_186 rfl rfl ?_
  refine zc_newa (atype := .int) (t := 1) (n := 19200) (pc' := 191) hC tw_1_49 (by decide) (by decide) (by decide) (by decide) (by decide) (by decide) dX7_init_189 rfl (fun x89 L90 σ91 => ?_)
  refine zc_putRF (pc' := 194) hmn hC fd_7_40 rfl tw_4_88 rfl rfl (fun _ => rfl) (fun _ => rfl) dX7_init_191 rfl (fun σ92 => ?_)
  refine zc_aload_n (pc' := 195) hC dX7_init_194 rfl rfl (lv_at hl 0 rfl) ?_
  refine zc_sipush (pc' := 198) (v := (480 : Int32)) hC dX7_init_195 rfl rfl ?_
  refine zc_newa (atype := .int) (t := 1) (n := 480) (pc' := 200) hC tw_1_49 (by decide) (by decide) (by decide) (by decide) (by decide) (by decide) dX7_init_198 rfl (fun x93 L94 σ95 => ?_)
  refine zc_putRF (pc' := 203) hmn hC fd_7_41 rfl tw_4_89 rfl rfl (fun _ => rfl) (fun _ => rfl) dX7_init_200 rfl (fun σ96 => ?_)
  refine zc_aload_n (pc' := 204) hC dX7_init_203 rfl rfl (lv_at hl 0 rfl) ?_
  refine zc_sipush (pc' := 207) (v := (480 : Int32)) hC dX7_init_204 rfl rfl ?_
  refine zc_newa (atype := .int) (t := 1) (n := 480) (pc' := 209) hC tw_1_49 (by decide) (by decide) (by decide) (by decide) (by decide) (by decide) dX7_init_207 rfl (fun x97 L98 σ99 => ?_)
  refine zc_putRF (pc' := 212) hmn hC fd_7_42 rfl tw_4_90 rfl rfl (fun _ => rfl) (fun _ => rfl) dX7_init_209 rfl (fun σ100 => ?_)
  refine zc_aload_n (pc' := 213) hC dX7_init_212 rfl rfl (lv_at hl 0 rfl) ?_
  refine zc_sipush (pc' := 216) (v := (480 : Int32)) hC dX7_init_213 rfl rfl ?_
  refine zc_newa (atype := .int) (t := 1) (n := 480) (pc' := 218) hC tw_1_49 (by decide) (by decide) (by decide) (by decide) (by decide) (by decide) dX7_init_216 rfl (fun x101 L102 σ103 => ?_)
  refine zc_putRF (pc' := 221) hmn hC fd_7_43 rfl tw_4_91 rfl rfl (fun _ => rfl) (fun _ => rfl) dX7_init_218 rfl (fun σ104 => ?_)
  refine zc_aload_n (pc' := 222) hC dX7_init_221 rfl rfl (lv_at hl 0 rfl) ?_
  refine zc_sipush (pc' := 225) (v := (800 : Int32)) hC dX7_init_222 rfl rfl ?_
  refine zc_newa (atype := .int) (t := 1) (n := 800) (pc' := 227) hC tw_1_49 (by decide) (by decide) (by decide) (by decide) (by decide) (by decide) dX7_init_225 rfl (fun x105 L106 σ107 => ?_)
  refine zc_putRF (pc' := 230) hmn hC fd_7_44 rfl tw_4_92 rfl rfl (fun _ => rfl) (fun _ => rfl) dX7_init_227 rfl (fun σ108 => ?_)
  refine zc_aload_n (pc' := 231) hC dX7_init_230 rfl rfl (lv_at hl 0 rfl) ?_
  refine zc_sipush (pc' := 234) (v := (800 : Int32)) hC dX7_init_231 rfl rfl ?_
  refine zc_newa (atype := .int) (t := 1) (n := 800) (pc' := 236) hC tw_1_49 (by decide) (by decide) (by decide) (by decide) (by decide) (by decide) dX7_init_234 rfl (fun x109 L110 σ111 => ?_)
  refine zc_putRF (pc' := 239) hmn hC fd_7_45 rfl tw_4_93 rfl rfl (fun _ => rfl) (fun _ => rfl) dX7_init_236 rfl (fun σ112 => ?_)
  refine zc_aload_n (pc' := 240) hC dX7_init_239 rfl rfl (lv_at hl 0 rfl) ?_
  refine zc_bipush (pc' := 242) (v := (20 : Int32)) hC dX7_init_240 rfl rfl ?_
  refine zc_newa (atype := .int) (t := 1) (n := 20) (pc' := 244) hC tw_1_49 (by decide) (by decide) (by decide) (by decide) (by decide) (by decide) dX7_init_242 rfl (fun x113 L114 σ115 => ?_)
  refine zc_putRF (pc' := 247) hmn hC fd_7_46 rfl tw_4_94 rfl rfl (fun _ => rfl) (fun _ => rfl) dX7_init_244 rfl (fun σ116 => ?_)
  refine zc_aload_n (pc' := 248) hC dX7_init_247 rfl rfl (lv_at hl 0 rfl) ?_
  refine zc_bipush (pc' := 250) (v := (20 : Int32)) hC dX7_init_248 rfl rfl ?_
  refine zc_newa (atype := .int) (t := 1) (n := 20) (pc' := 252) hC tw_1_49 (by decide) (by decide) (by decide) (by decide) (by decide) (by decide) dX7_init_250 rfl (fun x117 L118 σ119 => ?_)
  refine zc_putRF (pc' := 255) hmn hC fd_7_47 rfl tw_4_95 rfl rfl (fun _ => rfl) (fun _ => rfl) dX7_init_252 rfl (fun σ120 => ?_)
  refine zc_aload_n (pc' := 256) hC dX7_init_255 rfl rfl (lv_at hl 0 rfl) ?_
  refine zc_bipush (pc' := 258) (v := (20 : Int32)) hC dX7_init_256 rfl rfl ?_
  refine zc_newa (atype := .int) (t := 1) (n := 20) (pc' := 260) hC tw_1_49 (by decide) (by decide) (by decide) (by decide) (by decide) (by decide) dX7_init_258 rfl (fun x121 L122 σ123 => ?_)
  refine zc_putRF (pc' := 263) hmn hC fd_7_48 rfl tw_4_96 rfl rfl (fun _ => rfl) (fun _ => rfl) dX7_init_260 rfl (fun σ124 => ?_)
  refine zc_aload_n (pc' := 264) hC dX7_init_263 rfl rfl (lv_at hl 0 rfl) ?_
  refine zc_bipush (pc' := 266) (v := (20 : Int32)) hC dX7_init_264 rfl rfl ?_
  refine zc_newa (atype := .int) (t := 1) (n := 20) (pc' := 268) hC tw_1_49 (by decide) (by decide) (by decide) (by decide) (by decide) (by decide) dX7_init_266 rfl (fun x125 L126 σ127 => ?_)
  refine zc_putRF (pc' := 271) hmn hC fd_7_49 rfl tw_4_97 rfl rfl (fun _ => rfl) (fun _ => rfl) dX7_init_268 rfl (fun σ128 => ?_)
  refine zc_aload_n (pc' := 272) hC dX7_init_271 rfl rfl (lv_at hl 0 rfl) ?_
  refine zc_bipush (pc' := 274) (v := (24 : Int32)) hC dX7_init_272 rfl rfl ?_
  refine zc_newa (atype := .int) (t := 1) (n := 24) (pc' := 276) hC tw_1_49 (by decide) (by decide) (by decide) (by decide) (by decide) (by decide) dX7_init_274 rfl (fun x129 L130 σ131 => ?_)
  refine zc_putRF (pc' := 279) hmn hC fd_7_50 rfl tw_4_98 rfl rfl (fun _ => rfl) (fun _ => rfl) dX7_init_276 rfl (fun σ132 => ?_)
  refine zc_aload_n (pc' := 280) hC dX7_init_279 rfl rfl (lv_at hl 0 rfl) ?_
  refine zc_bipush (pc' := 282) (v := (24 : Int32)) hC dX7_init_280 rfl rfl ?_
  refine zc_newa (atype := .int) (t := 1) (n := 24) (pc' := 284) hC tw_1_49 (by decide) (by decide) (by decide) (by decide) (by decide) (by decide) dX7_init_282 rfl (fun x133 L134 σ135 => ?_)
  refine zc_putRF (pc' := 287) hmn hC fd_7_51 rfl tw_4_99 rfl rfl (fun _ => rfl) (fun _ => rfl) dX7_init_284 rfl (fun σ136 => ?_)
  refine zc_aload_n (pc' := 288) hC dX7_init_287 rfl rfl (lv_at hl 0 rfl) ?_
  refine zc_bipush (pc' := 290) (v := (24 : Int32)) hC dX7_init_288 rfl rfl ?_
  refine zc_newa (atype := .int) (t := 1) (n := 24) (pc' := 292) hC tw_1_49 (by decide) (by decide) (by decide) (by decide) (by decide) (by decide) dX7_init_290 rfl (fun x137 L138 σ139 => ?_)
  refine zc_putRF (pc' := 295) hmn hC fd_7_52 rfl tw_4_100 rfl rfl (fun _ => rfl) (fun _ => rfl) dX7_init_292 rfl (fun σ140 => ?_)
  refine zc_iconst (pc' := 296) (v := (0 : Int32)) hC dX7_init_295 rfl rfl ?_
  refine zc_istore_n (pc' := 297) (lv' := [(1, .int (0 : Int32)), (0, .ref (b0 + v0))]) hC dX7_init_296 rfl rfl hl (by decide) rfl (fun ls hl => ?_)
  refine zc_iload_n (pc' := 298) hC dX7_init_297 rfl rfl (lv_at hl 0 rfl) ?_
  refine zc_bipush (pc' := 300) (v := (24 : Int32)) hC dX7_init_298 rfl rfl ?_
  refine zc_geF (tgt := 316) (pc' := 303) hC dX7_init_300 (by decide) rfl (by decide) ?_
  refine zc_aload_n (pc' := 304) hC dX7_init_303 rfl rfl (lv_at hl 1 rfl) ?_
  refine zc_getR (pc' := 307) hC fd_7_4 rfl tw_4_52 dX7_init_304 rfl (fun q141 => ?_)
  refine zc_iload_n (pc' := 308) hC dX7_init_307 rfl rfl (lv_at hl 0 rfl) ?_
  refine zc_iconst (pc' := 309) (v := (-1 : Int32)) hC dX7_init_308 rfl rfl ?_
  refine zc_iast (pc' := 310) hC dX7_init_309 rfl (fun σ142 => ?_)
  refine zc_iinc (pc' := 313) (k0 := 0) (v := (1 : Int32)) (lv' := [(1, .int (1 : Int32)), (0, .ref (b0 + v0))]) hC dX7_init_310 rfl hl rfl rfl (by decide) rfl (fun ls hl => ?_)
  refine zc_goto (tgt := 297) hC dX7_init_313 (by decide) ?_
  refine zc_iload_n (pc' := 298) hC dX7_init_297 rfl rfl (lv_at hl 0 rfl) ?_
  refine zc_bipush (pc' := 300) (v := (24 : Int32)) hC dX7_init_298 rfl rfl ?_
  refine zc_geF (tgt := 316) (pc' := 303) hC dX7_init_300 (by decide) rfl (by decide) ?_
  refine zc_aload_n (pc' := 304) hC dX7_init_303 rfl rfl (lv_at hl 1 rfl) ?_
  refine zc_getR (pc' := 307) hC fd_7_4 rfl tw_4_52 dX7_init_304 rfl (fun q143 => ?_)
  refine zc_iload_n (pc' := 308) hC dX7_init_307 rfl rfl (lv_at hl 0 rfl) ?_
  refine zc_iconst (pc' := 309) (v := (-1 : Int32)) hC dX7_init_308 rfl rfl ?_
  refine zc_iast (pc' := 310) hC dX7_init_309 rfl (fun σ144 => ?_)
  refine zc_iinc (pc' := 313) (k0 := 0) (v := (2 : Int32)) (lv' := [(1, .int (2 : Int32)), (0, .ref (b0 + v0))]) hC dX7_init_310 rfl hl rfl rfl (by decide) rfl (fun ls hl => ?_)
  refine zc_goto (tgt := 297) hC dX7_init_313 (by decide) ?_
  refine zc_iload_n (pc' := 298) hC dX7_init_297 rfl rfl (lv_at hl 0 rfl) ?_
  refine zc_bipush (pc' := 300) (v := (24 : Int32)) hC dX7_init_298 rfl rfl ?_
  refine zc_geF (tgt := 316) (pc' := 303) hC dX7_init_300 (by decide) rfl (by decide) ?_
  refine zc_aload_n (pc' := 304) hC dX7_init_303 rfl rfl (lv_at hl 1 rfl) ?_
  refine zc_getR (pc' := 307) hC fd_7_4 rfl tw_4_52 dX7_init_304 rfl (fun q145 => ?_)
  refine zc_iload_n (pc' := 308) hC dX7_init_307 rfl rfl (lv_at hl 0 rfl) ?_
  refine zc_iconst (pc' := 309) (v := (-1 : Int32)) hC dX7_init_308 rfl rfl ?_
  refine zc_iast (pc' := 310) hC dX7_init_309 rfl (fun σ146 => ?_)
  refine zc_iinc (pc' := 313) (k0 := 0) (v := (3 : Int32)) (lv' := [(1, .int (3 : Int32)), (0, .ref (b0 + v0))]) hC dX7_init_310 rfl hl rfl rfl (by decide) rfl (fun ls hl => ?_)
  refine zc_goto (tgt := 297) hC dX7_init_313 (by decide) ?_
  refine zc_iload_n (pc' := 298) hC dX7_init_297 rfl rfl (lv_at hl 0 rfl) ?_
  refine zc_bipush (pc' := 300) (v := (24 : Int32)) hC dX7_init_298 rfl rfl ?_
  refine zc_geF (tgt := 316) (pc' := 303) hC dX7_init_300 (by decide) rfl (by decide) ?_
  refine zc_aload_n (pc' := 304) hC dX7_init_303 rfl rfl (lv_at hl 1 rfl) ?_
  refine zc_getR (pc' := 307) hC fd_7_4 rfl tw_4_52 dX7_init_304 rfl (fun q147 => ?_)
  refine zc_iload_n (pc' := 308) hC dX7_init_307 rfl rfl (lv_at hl 0 rfl) ?_
  refine zc_iconst (pc' := 309) (v := (-1 : Int32)) hC dX7_init_308 rfl rfl ?_
  refine zc_iast (pc' := 310) hC dX7_init_309 rfl (fun σ148 => ?_)
  refine zc_iinc (pc' := 313) (k0 := 0) (v := (4 : Int32)) (lv' := [(1, .int (4 : Int32)), (0, .ref (b0 + v0))]) hC dX7_init_310 rfl hl rfl rfl (by decide) rfl (fun ls hl => ?_)
  refine zc_goto (tgt := 297) hC dX7_init_313 (by decide) ?_
  refine zc_iload_n (pc' := 298) hC dX7_init_297 rfl rfl (lv_at hl 0 rfl) ?_
  refine zc_bipush (pc' := 300) (v := (24 : Int32)) hC dX7_init_298 rfl rfl ?_
  refine zc_geF (tgt := 316) (pc' := 303) hC dX7_init_300 (by decide) rfl (by decide) ?_
  refine zc_aload_n (pc' := 304) hC dX7_init_303 rfl rfl (lv_at hl 1 rfl) ?_
  refine zc_getR (pc' := 307) hC fd_7_4 rfl tw_4_52 dX7_init_304 rfl (fun q149 => ?_)
  refine zc_iload_n (pc' := 308) hC dX7_init_307 rfl rfl (lv_at hl 0 rfl) ?_
  refine zc_iconst (pc' := 309) (v := (-1 : Int32)) hC dX7_init_308 rfl rfl ?_
  refine zc_iast (pc' := 310) hC dX7_init_309 rfl (fun σ150 => ?_)
  refine zc_iinc (pc' := 313) (k0 := 0) (v := (5 : Int32)) (lv' := [(1, .int (5 : Int32)), (0, .ref (b0 + v0))]) hC dX7_init_310 rfl hl rfl rfl (by decide) rfl (fun ls hl => ?_)
  refine zc_goto (tgt := 297) hC dX7_init_313 (by decide) ?_
  refine zc_iload_n (pc' := 298) hC dX7_init_297 rfl rfl (lv_at hl 0 rfl) ?_
  refine zc_bipush (pc' := 300) (v := (24 : Int32)) hC dX7_init_298 rfl rfl ?_
  refine zc_geF (tgt := 316) (pc' := 303) hC dX7_init_300 (by decide) rfl (by decide) ?_
  refine zc_aload_n (pc' := 304) hC dX7_init_303 rfl rfl (lv_at hl 1 rfl) ?_
  refine zc_getR (pc' := 307) hC fd_7_4 rfl tw_4_52 dX7_init_304 rfl (fun q151 => ?_)
  refine zc_iload_n (pc' := 308) hC dX7_init_307 rfl rfl (lv_at hl 0 rfl) ?_
  refine zc_iconst (pc' := 309) (v := (-1 : Int32)) hC dX7_init_308 rfl rfl ?_
  refine zc_iast (pc' := 310) hC dX7_init_309 rfl (fun σ152 => ?_)
  refine zc_iinc (pc' := 313) (k0 := 0) (v := (6 : Int32)) (lv' := [(1, .int (6 : Int32)), (0, .ref (b0 + v0))]) hC dX7_init_310 rfl hl rfl rfl (by decide) rfl (fun ls hl => ?_)
  refine zc_goto (tgt := 297) hC dX7_init_313 (by decide) ?_
  refine zc_iload_n (pc' := 298) hC dX7_init_297 rfl rfl (lv_at hl 0 rfl) ?_
  refine zc_bipush (pc' := 300) (v := (24 : Int32)) hC dX7_init_298 rfl rfl ?_
  refine zc_geF (tgt := 316) (pc' := 303) hC dX7_init_300 (by decide) rfl (by decide) ?_
  refine zc_aload_n (pc' := 304) hC dX7_init_303 rfl rfl (lv_at hl 1 rfl) ?_
  refine zc_getR (pc' := 307) hC fd_7_4 rfl tw_4_52 dX7_init_304 rfl (fun q153 => ?_)
  refine zc_iload_n (pc' := 308) hC dX7_init_307 rfl rfl (lv_at hl 0 rfl) ?_
  refine zc_iconst (pc' := 309) (v := (-1 : Int32)) hC dX7_init_308 rfl rfl ?_
  refine zc_iast (pc' := 310) hC dX7_init_309 rfl (fun σ154 => ?_)
  refine zc_iinc (pc' := 313) (k0 := 0) (v := (7 : Int32)) (lv' := [(1, .int (7 : Int32)), (0, .ref (b0 + v0))]) hC dX7_init_310 rfl hl rfl rfl (by decide) rfl (fun ls hl => ?_)
  refine zc_goto (tgt := 297) hC dX7_init_313 (by decide) ?_
  refine zc_iload_n (pc' := 298) hC dX7_init_297 rfl rfl (lv_at hl 0 rfl) ?_
  refine zc_bipush (pc' := 300) (v := (24 : Int32)) hC dX7_init_298 rfl rfl ?_
  refine zc_geF (tgt := 316) (pc' := 303) hC dX7_init_300 (by decide) rfl (by decide) ?_
  refine zc_aload_n (pc' := 304) hC dX7_init_303 rfl rfl (lv_at hl 1 rfl) ?_
  refine zc_getR (pc' := 307) hC fd_7_4 rfl tw_4_52 dX7_init_304 rfl (fun q155 => ?_)
  refine zc_iload_n (pc' := 308) hC dX7_init_307 rfl rfl (lv_at hl 0 rfl) ?_
  refine zc_iconst (pc' := 309) (v := (-1 : Int32)) hC dX7_init_308 rfl rfl ?_
  refine zc_iast (pc' := 310) hC dX7_init_309 rfl (fun σ156 => ?_)
  refine zc_iinc (pc' := 313) (k0 := 0) (v := (8 : Int32)) (lv' := [(1, .int (8 : Int32)), (0, .ref (b0 + v0))]) hC dX7_init_310 rfl hl rfl rfl (by decide) rfl (fun ls hl => ?_)
  refine zc_goto (tgt := 297) hC dX7_init_313 (by decide) ?_
  refine zc_iload_n (pc' := 298) hC dX7_init_297 rfl rfl (lv_at hl 0 rfl) ?_
  refine zc_bipush (pc' := 300) (v := (24 : Int32)) hC dX7_init_298 rfl rfl ?_
  refine zc_geF (tgt := 316) (pc' := 303) hC dX7_init_300 (by decide) rfl (by decide) ?_
  refine zc_aload_n (pc' := 304) hC dX7_init_303 rfl rfl (lv_at hl 1 rfl) ?_
  refine zc_getR (pc' := 307) hC fd_7_4 rfl tw_4_52 dX7_init_304 rfl (fun q157 => ?_)
  refine zc_iload_n (pc' := 308) hC dX7_init_307 rfl rfl (lv_at hl 0 rfl) ?_
  refine zc_iconst (pc' := 309) (v := (-1 : Int32)) hC dX7_init_308 rfl rfl ?_
  refine zc_iast (pc' := 310) hC dX7_init_309 rfl (fun σ158 => ?_)
  refine zc_iinc (pc' := 313) (k0 := 0) (v := (9 : Int32)) (lv' := [(1, .int (9 : Int32)), (0, .ref (b0 + v0))]) hC dX7_init_310 rfl hl rfl rfl (by decide) rfl (fun ls hl => ?_)
  refine zc_goto (tgt := 297) hC dX7_init_313 (by decide) ?_
  refine zc_iload_n (pc' := 298) hC dX7_init_297 rfl rfl (lv_at hl 0 rfl) ?_
  refine zc_bipush (pc' := 300) (v := (24 : Int32)) hC dX7_init_298 rfl rfl ?_
  refine zc_geF (tgt := 316) (pc' := 303) hC dX7_init_300 (by decide) rfl (by decide) ?_
  refine zc_aload_n (pc' := 304) hC dX7_init_303 rfl rfl (lv_at hl 1 rfl) ?_
  refine zc_getR (pc' := 307) hC fd_7_4 rfl tw_4_52 dX7_init_304 rfl (fun q159 => ?_)
  refine zc_iload_n (pc' := 308) hC dX7_init_307 rfl rfl (lv_at hl 0 rfl) ?_
  refine zc_iconst (pc' := 309) (v := (-1 : Int32)) hC dX7_init_308 rfl rfl ?_
  refine zc_iast (pc' := 310) hC dX7_init_309 rfl (fun σ160 => ?_)
  refine zc_iinc (pc' := 313) (k0 := 0) (v := (10 : Int32)) (lv' := [(1, .int (10 : Int32)), (0, .ref (b0 + v0))]) hC dX7_init_310 rfl hl rfl rfl (by decide) rfl (fun ls hl => ?_)
  refine zc_goto (tgt := 297) hC dX7_init_313 (by decide) ?_
  refine zc_iload_n (pc' := 298) hC dX7_init_297 rfl rfl (lv_at hl 0 rfl) ?_
  refine zc_bipush (pc' := 300) (v := (24 : Int32)) hC dX7_init_298 rfl rfl ?_
  refine zc_geF (tgt := 316) (pc' := 303) hC dX7_init_300 (by decide) rfl (by decide) ?_
  refine zc_aload_n (pc' := 304) hC dX7_init_303 rfl rfl (lv_at hl 1 rfl) ?_
  refine zc_getR (pc' := 307) hC fd_7_4 rfl tw_4_52 dX7_init_304 rfl (fun q161 => ?_)
  refine zc_iload_n (pc' := 308) hC dX7_init_307 rfl rfl (lv_at hl 0 rfl) ?_
  refine zc_iconst (pc' := 309) (v := (-1 : Int32)) hC dX7_init_308 rfl rfl ?_
  refine zc_iast (pc' := 310) hC dX7_init_309 rfl (fun σ162 => ?_)
  refine zc_iinc (pc' := 313) (k0 := 0) (v := (11 : Int32)) (lv' := [(1, .int (11 : Int32)), (0, .ref (b0 + v0))]) hC dX7_init_310 rfl hl rfl rfl (by decide) rfl (fun ls hl => ?_)
  refine zc_goto (tgt := 297) hC dX7_init_313 (by decide) ?_
  refine zc_iload_n (pc' := 298) hC dX7_init_297 rfl rfl (lv_at hl 0 rfl) ?_
  refine zc_bipush (pc' := 300) (v := (24 : Int32)) hC dX7_init_298 rfl rfl ?_
  refine zc_geF (tgt := 316) (pc' := 303) hC dX7_init_300 (by decide) rfl (by decide) ?_
  refine zc_aload_n (pc' := 304) hC dX7_init_303 rfl rfl (lv_at hl 1 rfl) ?_
  refine zc_getR (pc' := 307) hC fd_7_4 rfl tw_4_52 dX7_init_304 rfl (fun q163 => ?_)
  refine zc_iload_n (pc' := 308) hC dX7_init_307 rfl rfl (lv_at hl 0 rfl) ?_
  refine zc_iconst (pc' := 309) (v := (-1 : Int32)) hC dX7_init_308 rfl rfl ?_
  refine zc_iast (pc' := 310) hC dX7_init_309 rfl (fun σ164 => ?_)
  refine zc_iinc (pc' := 313) (k0 := 0) (v := (12 : Int32)) (lv' := [(1, .int (12 : Int32)), (0, .ref (b0 + v0))]) hC dX7_init_310 rfl hl rfl rfl (by decide) rfl (fun ls hl => ?_)
  refine zc_goto (tgt := 297) hC dX7_init_313 (by decide) ?_
  refine zc_iload_n (pc' := 298) hC dX7_init_297 rfl rfl (lv_at hl 0 rfl) ?_
  refine zc_bipush (pc' := 300) (v := (24 : Int32)) hC dX7_init_298 rfl rfl ?_
  refine zc_geF (tgt := 316) (pc' := 303) hC dX7_init_300 (by decide) rfl (by decide) ?_
  refine zc_aload_n (pc' := 304) hC dX7_init_303 rfl rfl (lv_at hl 1 rfl) ?_
  refine zc_getR (pc' := 307) hC fd_7_4 rfl tw_4_52 dX7_init_304 rfl (fun q165 => ?_)
  refine zc_iload_n (pc' := 308) hC dX7_init_307 rfl rfl (lv_at hl 0 rfl) ?_
  refine zc_iconst (pc' := 309) (v := (-1 : Int32)) hC dX7_init_308 rfl rfl ?_
  refine zc_iast (pc' := 310) hC dX7_init_309 rfl (fun σ166 => ?_)
  refine zc_iinc (pc' := 313) (k0 := 0) (v := (13 : Int32)) (lv' := [(1, .int (13 : Int32)), (0, .ref (b0 + v0))]) hC dX7_init_310 rfl hl rfl rfl (by decide) rfl (fun ls hl => ?_)
  refine zc_goto (tgt := 297) hC dX7_init_313 (by decide) ?_
  refine zc_iload_n (pc' := 298) hC dX7_init_297 rfl rfl (lv_at hl 0 rfl) ?_
  refine zc_bipush (pc' := 300) (v := (24 : Int32)) hC dX7_init_298 rfl rfl ?_
  refine zc_geF (tgt := 316) (pc' := 303) hC dX7_init_300 (by decide) rfl (by decide) ?_
  refine zc_aload_n (pc' := 304) hC dX7_init_303 rfl rfl (lv_at hl 1 rfl) ?_
  refine zc_getR (pc' := 307) hC fd_7_4 rfl tw_4_52 dX7_init_304 rfl (fun q167 => ?_)
  refine zc_iload_n (pc' := 308) hC dX7_init_307 rfl rfl (lv_at hl 0 rfl) ?_
  refine zc_iconst (pc' := 309) (v := (-1 : Int32)) hC dX7_init_308 rfl rfl ?_
  refine zc_iast (pc' := 310) hC dX7_init_309 rfl (fun σ168 => ?_)
  refine zc_iinc (pc' := 313) (k0 := 0) (v := (14 : Int32)) (lv' := [(1, .int (14 : Int32)), (0, .ref (b0 + v0))]) hC dX7_init_310 rfl hl rfl rfl (by decide) rfl (fun ls hl => ?_)
  refine zc_goto (tgt := 297) hC dX7_init_313 (by decide) ?_
  refine zc_iload_n (pc' := 298) hC dX7_init_297 rfl rfl (lv_at hl 0 rfl) ?_
  refine zc_bipush (pc' := 300) (v := (24 : Int32)) hC dX7_init_298 rfl rfl ?_
  refine zc_geF (tgt := 316) (pc' := 303) hC dX7_init_300 (by decide) rfl (by decide) ?_
  refine zc_aload_n (pc' := 304) hC dX7_init_303 rfl rfl (lv_at hl 1 rfl) ?_
  refine zc_getR (pc' := 307) hC fd_7_4 rfl tw_4_52 dX7_init_304 rfl (fun q169 => ?_)
  refine zc_iload_n (pc' := 308) hC dX7_init_307 rfl rfl (lv_at hl 0 rfl) ?_
  refine zc_iconst (pc' := 309) (v := (-1 : Int32)) hC dX7_init_308 rfl rfl ?_
  refine zc_iast (pc' := 310) hC dX7_init_309 rfl (fun σ170 => ?_)
  refine zc_iinc (pc' := 313) (k0 := 0) (v := (15 : Int32)) (lv' := [(1, .int (15 : Int32)), (0, .ref (b0 + v0))]) hC dX7_init_310 rfl hl rfl rfl (by decide) rfl (fun ls hl => ?_)
  refine zc_goto (tgt := 297) hC dX7_init_313 (by decide) ?_
  refine zc_iload_n (pc' := 298) hC dX7_init_297 rfl rfl (lv_at hl 0 rfl) ?_
  refine zc_bipush (pc' := 300) (v := (24 : Int32)) hC dX7_init_298 rfl rfl ?_
  refine zc_geF (tgt := 316) (pc' := 303) hC dX7_init_300 (by decide) rfl (by decide) ?_
  refine zc_aload_n (pc' := 304) hC dX7_init_303 rfl rfl (lv_at hl 1 rfl) ?_
  refine zc_getR (pc' := 307) hC fd_7_4 rfl tw_4_52 dX7_init_304 rfl (fun q171 => ?_)
  refine zc_iload_n (pc' := 308) hC dX7_init_307 rfl rfl (lv_at hl 0 rfl) ?_
  refine zc_iconst (pc' := 309) (v := (-1 : Int32)) hC dX7_init_308 rfl rfl ?_
  refine zc_iast (pc' := 310) hC dX7_init_309 rfl (fun σ172 => ?_)
  refine zc_iinc (pc' := 313) (k0 := 0) (v := (16 : Int32)) (lv' := [(1, .int (16 : Int32)), (0, .ref (b0 + v0))]) hC dX7_init_310 rfl hl rfl rfl (by decide) rfl (fun ls hl => ?_)
  refine zc_goto (tgt := 297) hC dX7_init_313 (by decide) ?_
  refine zc_iload_n (pc' := 298) hC dX7_init_297 rfl rfl (lv_at hl 0 rfl) ?_
  refine zc_bipush (pc' := 300) (v := (24 : Int32)) hC dX7_init_298 rfl rfl ?_
  refine zc_geF (tgt := 316) (pc' := 303) hC dX7_init_300 (by decide) rfl (by decide) ?_
  refine zc_aload_n (pc' := 304) hC dX7_init_303 rfl rfl (lv_at hl 1 rfl) ?_
  refine zc_getR (pc' := 307) hC fd_7_4 rfl tw_4_52 dX7_init_304 rfl (fun q173 => ?_)
  refine zc_iload_n (pc' := 308) hC dX7_init_307 rfl rfl (lv_at hl 0 rfl) ?_
  refine zc_iconst (pc' := 309) (v := (-1 : Int32)) hC dX7_init_308 rfl rfl ?_
  refine zc_iast (pc' := 310) hC dX7_init_309 rfl (fun σ174 => ?_)
  refine zc_iinc (pc' := 313) (k0 := 0) (v := (17 : Int32)) (lv' := [(1, .int (17 : Int32)), (0, .ref (b0 + v0))]) hC dX7_init_310 rfl hl rfl rfl (by decide) rfl (fun ls hl => ?_)
  refine zc_goto (tgt := 297) hC dX7_init_313 (by decide) ?_
  refine zc_iload_n (pc' := 298) hC dX7_init_297 rfl rfl (lv_at hl 0 rfl) ?_
  refine zc_bipush (pc' := 300) (v := (24 : Int32)) hC dX7_init_298 rfl rfl ?_
  refine zc_geF (tgt := 316) (pc' := 303) hC dX7_init_300 (by decide) rfl (by decide) ?_
  refine zc_aload_n (pc' := 304) hC dX7_init_303 rfl rfl (lv_at hl 1 rfl) ?_
  refine zc_getR (pc' := 307) hC fd_7_4 rfl tw_4_52 dX7_init_304 rfl (fun q175 => ?_)
  refine zc_iload_n (pc' := 308) hC dX7_init_307 rfl rfl (lv_at hl 0 rfl) ?_
  refine zc_iconst (pc' := 309) (v := (-1 : Int32)) hC dX7_init_308 rfl rfl ?_
  refine zc_iast (pc' := 310) hC dX7_init_309 rfl (fun σ176 => ?_)
  refine zc_iinc (pc' := 313) (k0 := 0) (v := (18 : Int32)) (lv' := [(1, .int (18 : Int32)), (0, .ref (b0 + v0))]) hC dX7_init_310 rfl hl rfl rfl (by decide) rfl (fun ls hl => ?_)
  refine zc_goto (tgt := 297) hC dX7_init_313 (by decide) ?_
  refine zc_iload_n (pc' := 298) hC dX7_init_297 rfl rfl (lv_at hl 0 rfl) ?_
  refine zc_bipush (pc' := 300) (v := (24 : Int32)) hC dX7_init_298 rfl rfl ?_
  refine zc_geF (tgt := 316) (pc' := 303) hC dX7_init_300 (by decide) rfl (by decide) ?_
  refine zc_aload_n (pc' := 304) hC dX7_init_303 rfl rfl (lv_at hl 1 rfl) ?_
  refine zc_getR (pc' := 307) hC fd_7_4 rfl tw_4_52 dX7_init_304 rfl (fun q177 => ?_)
  refine zc_iload_n (pc' := 308) hC dX7_init_307 rfl rfl (lv_at hl 0 rfl) ?_
  refine zc_iconst (pc' := 309) (v := (-1 : Int32)) hC dX7_init_308 rfl rfl ?_
  refine zc_iast (pc' := 310) hC dX7_init_309 rfl (fun σ178 => ?_)
  refine zc_iinc (pc' := 313) (k0 := 0) (v := (19 : Int32)) (lv' := [(1, .int (19 : Int32)), (0, .ref (b0 + v0))]) hC dX7_init_310 rfl hl rfl rfl (by decide) rfl (fun ls hl => ?_)
  refine zc_goto (tgt := 297) hC dX7_init_313 (by decide) ?_
  refine zc_iload_n (pc' := 298) hC dX7_init_297 rfl rfl (lv_at hl 0 rfl) ?_
  refine zc_bipush (pc' := 300) (v := (24 : Int32)) hC dX7_init_298 rfl rfl ?_
  refine zc_geF (tgt := 316) (pc' := 303) hC dX7_init_300 (by decide) rfl (by decide) ?_
  refine zc_aload_n (pc' := 304) hC dX7_init_303 rfl rfl (lv_at hl 1 rfl) ?_
  refine zc_getR (pc' := 307) hC fd_7_4 rfl tw_4_52 dX7_init_304 rfl (fun q179 => ?_)
  refine zc_iload_n (pc' := 308) hC dX7_init_307 rfl rfl (lv_at hl 0 rfl) ?_
  refine zc_iconst (pc' := 309) (v := (-1 : Int32)) hC dX7_init_308 rfl rfl ?_
  refine zc_iast (pc' := 310) hC dX7_init_309 rfl (fun σ180 => ?_)
  refine zc_iinc (pc' := 313) (k0 := 0) (v := (20 : Int32)) (lv' := [(1, .int (20 : Int32)), (0, .ref (b0 + v0))]) hC dX7_init_310 rfl hl rfl rfl (by decide) rfl (fun ls hl => ?_)
  refine zc_goto (tgt := 297) hC dX7_init_313 (by decide) ?_
  refine zc_iload_n (pc' := 298) hC dX7_init_297 rfl rfl (lv_at hl 0 rfl) ?_
  refine zc_bipush (pc' := 300) (v := (24 : Int32)) hC dX7_init_298 rfl rfl ?_
  refine zc_geF (tgt := 316) (pc' := 303) hC dX7_init_300 (by decide) rfl (by decide) ?_
  refine zc_aload_n (pc' := 304) hC dX7_init_303 rfl rfl (lv_at hl 1 rfl) ?_
  refine zc_getR (pc' := 307) hC fd_7_4 rfl tw_4_52 dX7_init_304 rfl (fun q181 => ?_)
  refine zc_iload_n (pc' := 308) hC dX7_init_307 rfl rfl (lv_at hl 0 rfl) ?_
  refine zc_iconst (pc' := 309) (v := (-1 : Int32)) hC dX7_init_308 rfl rfl ?_
  refine zc_iast (pc' := 310) hC dX7_init_309 rfl (fun σ182 => ?_)
  refine zc_iinc (pc' := 313) (k0 := 0) (v := (21 : Int32)) (lv' := [(1, .int (21 : Int32)), (0, .ref (b0 + v0))]) hC dX7_init_310 rfl hl rfl rfl (by decide) rfl (fun ls hl => ?_)
  refine zc_goto (tgt := 297) hC dX7_init_313 (by decide) ?_
  refine zc_iload_n (pc' := 298) hC dX7_init_297 rfl rfl (lv_at hl 0 rfl) ?_
  refine zc_bipush (pc' := 300) (v := (24 : Int32)) hC dX7_init_298 rfl rfl ?_
  refine zc_geF (tgt := 316) (pc' := 303) hC dX7_init_300 (by decide) rfl (by decide) ?_
  refine zc_aload_n (pc' := 304) hC dX7_init_303 rfl rfl (lv_at hl 1 rfl) ?_
  refine zc_getR (pc' := 307) hC fd_7_4 rfl tw_4_52 dX7_init_304 rfl (fun q183 => ?_)
  refine zc_iload_n (pc' := 308) hC dX7_init_307 rfl rfl (lv_at hl 0 rfl) ?_
  refine zc_iconst (pc' := 309) (v := (-1 : Int32)) hC dX7_init_308 rfl rfl ?_
  refine zc_iast (pc' := 310) hC dX7_init_309 rfl (fun σ184 => ?_)
  refine zc_iinc (pc' := 313) (k0 := 0) (v := (22 : Int32)) (lv' := [(1, .int (22 : Int32)), (0, .ref (b0 + v0))]) hC dX7_init_310 rfl hl rfl rfl (by decide) rfl (fun ls hl => ?_)
  refine zc_goto (tgt := 297) hC dX7_init_313 (by decide) ?_
  refine zc_iload_n (pc' := 298) hC dX7_init_297 rfl rfl (lv_at hl 0 rfl) ?_
  refine zc_bipush (pc' := 300) (v := (24 : Int32)) hC dX7_init_298 rfl rfl ?_
  refine zc_geF (tgt := 316) (pc' := 303) hC dX7_init_300 (by decide) rfl (by decide) ?_
  refine zc_aload_n (pc' := 304) hC dX7_init_303 rfl rfl (lv_at hl 1 rfl) ?_
  refine zc_getR (pc' := 307) hC fd_7_4 rfl tw_4_52 dX7_init_304 rfl (fun q185 => ?_)
  refine zc_iload_n (pc' := 308) hC dX7_init_307 rfl rfl (lv_at hl 0 rfl) ?_
  refine zc_iconst (pc' := 309) (v := (-1 : Int32)) hC dX7_init_308 rfl rfl ?_
  refine zc_iast (pc' := 310) hC dX7_init_309 rfl (fun σ186 => ?_)
  refine zc_iinc (pc' := 313) (k0 := 0) (v := (23 : Int32)) (lv' := [(1, .int (23 : Int32)), (0, .ref (b0 + v0))]) hC dX7_init_310 rfl hl rfl rfl (by decide) rfl (fun ls hl => ?_)
  refine zc_goto (tgt := 297) hC dX7_init_313 (by decide) ?_
  refine zc_iload_n (pc' := 298) hC dX7_init_297 rfl rfl (lv_at hl 0 rfl) ?_
  refine zc_bipush (pc' := 300) (v := (24 : Int32)) hC dX7_init_298 rfl rfl ?_
  refine zc_geF (tgt := 316) (pc' := 303) hC dX7_init_300 (by decide) rfl (by decide) ?_
  refine zc_aload_n (pc' := 304) hC dX7_init_303 rfl rfl (lv_at hl 1 rfl) ?_
  refine zc_getR (pc' := 307) hC fd_7_4 rfl tw_4_52 dX7_init_304 rfl (fun q187 => ?_)
  refine zc_iload_n (pc' := 308) hC dX7_init_307 rfl rfl (lv_at hl 0 rfl) ?_
  refine zc_iconst (pc' := 309) (v := (-1 : Int32)) hC dX7_init_308 rfl rfl ?_
  refine zc_iast (pc' := 310) hC dX7_init_309 rfl (fun σ188 => ?_)
  refine zc_iinc (pc' := 313) (k0 := 0) (v := (24 : Int32)) (lv' := [(1, .int (24 : Int32)), (0, .ref (b0 + v0))]) hC dX7_init_310 rfl hl rfl rfl (by decide) rfl (fun ls hl => ?_)
  refine zc_goto (tgt := 297) hC dX7_init_313 (by decide) ?_
  refine zc_iload_n (pc' := 298) hC dX7_init_297 rfl rfl (lv_at hl 0 rfl) ?_
  refine zc_bipush (pc' := 300) (v := (24 : Int32)) hC dX7_init_298 rfl rfl ?_
  refine zc_geT (tgt := 316) hC dX7_init_300 (by decide) (by decide) ?_
  refine zc_aload_n (pc' := 317) hC dX7_init_316 rfl rfl (lv_at hl 1 rfl) ?_
  refine zc_bipush (pc' := 319) (v := (6 : Int32)) hC dX7_init_317 rfl rfl ?_
  refine zc_putI (pc' := 322) hC fd_7_0 rfl tw_4_48 rfl rfl rfl dX7_init_319 rfl (fun σ189 => ?_)
  refine zc_aload_n (pc' := 323) hC dX7_init_322 rfl rfl (lv_at hl 1 rfl) ?_
  refine zc_iconst (pc' := 324) (v := (1 : Int32)) hC dX7_init_323 rfl rfl ?_
  refine zc_putI (pc' := 327) hC fd_7_1 rfl tw_4_49 rfl rfl rfl dX7_init_324 rfl (fun σ190 => ?_)
  refine zc_aload_n (pc' := 328) hC dX7_init_327 rfl rfl (lv_at hl 1 rfl) ?_
  refine zc_iconst (pc' := 329) (v := (1 : Int32)) hC dX7_init_328 rfl rfl ?_
  refine zc_putI (pc' := 332) hC fd_7_2 rfl tw_4_50 rfl rfl rfl dX7_init_329 rfl (fun σ191 => ?_)
  refine zc_aload_n (pc' := 333) hC dX7_init_332 rfl rfl (lv_at hl 1 rfl) ?_
  refine zc_iconst (pc' := 334) (v := (1 : Int32)) hC dX7_init_333 rfl rfl ?_
  refine zc_putI (pc' := 337) hC fd_7_3 rfl tw_4_51 rfl rfl rfl dX7_init_334 rfl (fun σ192 => ?_)
  exact zc_ret hC rfl rfl dX7_init_337
