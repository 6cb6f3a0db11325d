set_option maxRecDepth 100000 in
def fd_Mo_init (a0 : Nat) (M : DM) : Option DM := (dNew M 100 (List.replicate 1600 (.int 0))).bind fun M1 => (dPut M1 a0 12 0 (.ref M.length)).bind fun M2 => (dPut M2 a0 12 8 (.int (-1))).bind fun M3 => (dNew M3 102 (List.replicate 5 (.int 0))).bind fun M4 => (dSet M4 M3.length 102 0 (.int 114)).bind fun M5 => (dSet M5 M3.length 102 1 (.int 105)).bind fun M6 => (dSet M6 M3.length 102 2 (.int 118)).bind fun M7 => (dSet M7 M3.length 102 3 (.int 101)).bind fun M8 => (dSet M8 M3.length 102 4 (.int 114)).bind fun M9 => (dPut M9 a0 12 10 (.ref M3.length)).bind fun M10 => (dNew M10 102 (List.replicate 3 (.int 0))).bind fun M11 => (dSet M11 M10.length 102 0 (.int 98)).bind fun M12 => (dSet M12 M10.length 102 1 (.int 101)).bind fun M13 => (dSet M13 M10.length 102 2 (.int 100)).bind fun M14 => (dPut M14 a0 12 11 (.ref M10.length)).bind fun M15 => (dNew M15 102 (List.replicate 2 (.int 0))).bind fun M16 => (dSet M16 M15.length 102 0 (.int 97)).bind fun M17 => (dSet M17 M15.length 102 1 (.int 116)).bind fun M18 => (dPut M18 a0 12 12 (.ref M15.length)).bind fun M19 => (dNew M19 102 (List.replicate 5 (.int 0))).bind fun M20 => (dSet M20 M19.length 102 0 (.int 119)).bind fun M21 => (dSet M21 M19.length 102 1 (.int 97)).bind fun M22 => (dSet M22 M19.length 102 2 (.int 116)).bind fun M23 => (dSet M23 M19.length 102 3 (.int 101)).bind fun M24 => (dSet M24 M19.length 102 4 (.int 114)).bind fun M25 => (dPut M25 a0 12 13 (.ref M19.length)).bind fun M26 => (dNew M26 102 (List.replicate 4 (.int 0))).bind fun M27 => (dSet M27 M26.length 102 0 (.int 100)).bind fun M28 => (dSet M28 M26.length 102 1 (.int 101)).bind fun M29 => (dSet M29 M26.length 102 2 (.int 115)).bind fun M30 => (dSet M30 M26.length 102 3 (.int 107)).bind fun M31 => (dPut M31 a0 12 14 (.ref M26.length)).bind fun M32 => (dNew M32 102 (List.replicate 4 (.int 0))).bind fun M33 => (dSet M33 M32.length 102 0 (.int 97)).bind fun M34 => (dSet M34 M32.length 102 1 (.int 114)).bind fun M35 => (dSet M35 M32.length 102 2 (.int 109)).bind fun M36 => (dSet M36 M32.length 102 3 (.int 115)).bind fun M37 => (dPut M37 a0 12 15 (.ref M32.length)).bind fun M38 => (dNew M38 102 (List.replicate 5 (.int 0))).bind fun M39 => (dSet M39 M38.length 102 0 (.int 112)).bind fun M40 => (dSet M40 M38.length 102 1 (.int 108)).bind fun M41 => (dSet M41 M38.length 102 2 (.int 97)).bind fun M42 => (dSet M42 M38.length 102 3 (.int 121)).bind fun M43 => (dSet M43 M38.length 102 4 (.int 115)).bind fun M44 => (dPut M44 a0 12 16 (.ref M38.length)).bind fun M45 => (dNew M45 102 (List.replicate 3 (.int 0))).bind fun M46 => (dSet M46 M45.length 102 0 (.int 112)).bind fun M47 => (dSet M47 M45.length 102 1 (.int 105)).bind fun M48 => (dSet M48 M45.length 102 2 (.int 116)).bind fun M49 => (dPut M49 a0 12 17 (.ref M45.length)).bind fun M50 => (dNew M50 102 (List.replicate 6 (.int 0))).bind fun M51 => (dSet M51 M50.length 102 0 (.int 115)).bind fun M52 => (dSet M52 M50.length 102 1 (.int 108)).bind fun M53 => (dSet M53 M50.length 102 2 (.int 117)).bind fun M54 => (dSet M54 M50.length 102 3 (.int 105)).bind fun M55 => (dSet M55 M50.length 102 4 (.int 99)).bind fun M56 => (dSet M56 M50.length 102 5 (.int 101)).bind fun M57 => (dPut M57 a0 12 18 (.ref M50.length)).bind fun M58 => (dNew M58 102 (List.replicate 4 (.int 0))).bind fun M59 => (dSet M59 M58.length 102 0 (.int 109)).bind fun M60 => (dSet M60 M58.length 102 1 (.int 105)).bind fun M61 => (dSet M61 M58.length 102 2 (.int 108)).bind fun M62 => (dSet M62 M58.length 102 3 (.int 108)).bind fun M63 => (dPut M63 a0 12 19 (.ref M58.length)).bind fun M64 => (dNew M64 102 (List.replicate 5 (.int 0))).bind fun M65 => (dSet M65 M64.length 102 0 (.int 110)).bind fun M66 => (dSet M66 M64.length 102 1 (.int 101)).bind fun M67 => (dSet M67 M64.length 102 2 (.int 101)).bind fun M68 => (dSet M68 M64.length 102 3 (.int 100)).bind fun M69 => (dSet M69 M64.length 102 4 (.int 115)).bind fun M70 => (dPut M70 a0 12 20 (.ref M64.length)).bind fun M71 => (dNew M71 102 (List.replicate 4 (.int 0))).bind fun M72 => (dSet M72 M71.length 102 0 (.int 98)).bind fun M73 => (dSet M73 M71.length 102 1 (.int 111)).bind fun M74 => (dSet M74 M71.length 102 2 (.int 97)).bind fun M75 => (dSet M75 M71.length 102 3 (.int 116)).bind fun M76 => (dPut M76 a0 12 21 (.ref M71.length)).bind fun M77 => (dNew M77 102 (List.replicate 5 (.int 0))).bind fun M78 => (dSet M78 M77.length 102 0 (.int 100)).bind fun M79 => (dSet M79 M77.length 102 1 (.int 114)).bind fun M80 => (dSet M80 M77.length 102 2 (.int 97)).bind fun M81 => (dSet M81 M77.length 102 3 (.int 102)).bind fun M82 => (dSet M82 M77.length 102 4 (.int 116)).bind fun M83 => (dPut M83 a0 12 22 (.ref M77.length)).bind fun M84 => (dNew M84 102 (List.replicate 6 (.int 0))).bind fun M85 => (dSet M85 M84.length 102 0 (.int 99)).bind fun M86 => (dSet M86 M84.length 102 1 (.int 108)).bind fun M87 => (dSet M87 M84.length 102 2 (.int 97)).bind fun M88 => (dSet M88 M84.length 102 3 (.int 113)).bind fun M89 => (dSet M89 M84.length 102 4 (.int 117)).bind fun M90 => (dSet M90 M84.length 102 5 (.int 101)).bind fun M91 => (dPut M91 a0 12 23 (.ref M84.length)).bind fun M92 => (dNew M92 102 (List.replicate 6 (.int 0))).bind fun M93 => (dSet M93 M92.length 102 0 (.int 100)).bind fun M94 => (dSet M94 M92.length 102 1 (.int 114)).bind fun M95 => (dSet M95 M92.length 102 2 (.int 105)).bind fun M96 => (dSet M96 M92.length 102 3 (.int 110)).bind fun M97 => (dSet M97 M92.length 102 4 (.int 107)).bind fun M98 => (dSet M98 M92.length 102 5 (.int 115)).bind fun M99 => (dPut M99 a0 12 24 (.ref M92.length)).bind fun M100 => (dNew M100 102 (List.replicate 4 (.int 0))).bind fun M101 => (dSet M101 M100.length 102 0 (.int 98)).bind fun M102 => (dSet M102 M100.length 102 1 (.int 97)).bind fun M103 => (dSet M103 M100.length 102 2 (.int 110)).bind fun M104 => (dSet M104 M100.length 102 3 (.int 107)).bind fun M105 => (dPut M105 a0 12 25 (.ref M100.length)).bind fun M106 => (dNew M106 102 (List.replicate 5 (.int 0))).bind fun M107 => (dSet M107 M106.length 102 0 (.int 116)).bind fun M108 => (dSet M108 M106.length 102 1 (.int 105)).bind fun M109 => (dSet M109 M106.length 102 2 (.int 109)).bind fun M110 => (dSet M110 M106.length 102 3 (.int 101)).bind fun M111 => (dSet M111 M106.length 102 4 (.int 115)).bind fun M112 => (dPut M112 a0 12 26 (.ref M106.length)).bind fun M113 => (dNew M113 100 (List.replicate 8 (.int 0))).bind fun M114 => (dPut M114 a0 12 28 (.ref M113.length)).bind fun M115 => (dNew M115 101 (List.replicate 48 (.long 0))).bind fun M116 => (dPut M116 a0 12 29 (.ref M115.length)).bind fun M117 => (dNew M117 100 (List.replicate 24 (.int 0))).bind fun M118 => (dPut M118 a0 12 32 (.ref M117.length)).bind fun M119 => (dNew M119 100 (List.replicate 24 (.int 0))).bind fun M120 => (dPut M120 a0 12 33 (.ref M119.length)).bind fun M121 => (dNew M121 100 (List.replicate 24 (.int 0))).bind fun M122 => (dPut M122 a0 12 34 (.ref M121.length)).bind fun M123 => (dNew M123 100 (List.replicate 16 (.int 0))).bind fun M124 => (dPut M124 a0 12 35 (.ref M123.length)).bind fun M125 => (dNew M125 100 (List.replicate 976 (.int 0))).bind fun M126 => (dPut M126 a0 12 36 (.ref M125.length)).bind fun M127 => (dNew M127 100 (List.replicate 16 (.int 0))).bind fun M128 => (dPut M128 a0 12 37 (.ref M127.length)).bind fun M129 => (dNew M129 100 (List.replicate 16 (.int 0))).bind fun M130 => (dPut M130 a0 12 38 (.ref M129.length)).bind fun M131 => (dNew M131 100 (List.replicate 16 (.int 0))).bind fun M132 => (dPut M132 a0 12 39 (.ref M131.length)).bind fun M133 => (dNew M133 100 (List.replicate 2 (.int 0))).bind fun M134 => (dPut M134 a0 12 40 (.ref M133.length)).bind fun M135 => (dNew M135 100 (List.replicate 2 (.int 0))).bind fun M136 => (dPut M136 a0 12 41 (.ref M135.length)).bind fun M137 => (dNew M137 100 (List.replicate 60 (.int 0))).bind fun M138 => (dPut M138 a0 12 43 (.ref M137.length)).bind fun M139 => (dNew M139 100 (List.replicate 5 (.int 0))).bind fun M140 => (dPut M140 a0 12 45 (.ref M139.length)).bind fun M141 => (dPut M141 a0 12 48 (.int (-1))).bind fun M142 => (dPut M142 a0 12 50 (.int (-1))).bind fun M143 => (dNew M143 100 (List.replicate 12 (.int 0))).bind fun M144 => (dPut M144 a0 12 52 (.ref M143.length)).bind fun M145 => (dNew M145 100 (List.replicate 4 (.int 0))).bind fun M146 => (dPut M146 a0 12 53 (.ref M145.length)).bind fun M147 => (dNew M147 100 (List.replicate 732 (.int 0))).bind fun M148 => (dPut M148 a0 12 59 (.ref M147.length)).bind fun M149 => (dNew M149 100 (List.replicate 244 (.int 0))).bind fun M150 => (dPut M150 a0 12 60 (.ref M149.length)).bind fun M151 => (dNew M151 100 (List.replicate 366 (.int 0))).bind fun M152 => (dPut M152 a0 12 61 (.ref M151.length)).bind fun M153 => (dNew M153 100 (List.replicate 9760 (.int 0))).bind fun M154 => (dPut M154 a0 12 62 (.ref M153.length)).bind fun M155 => (dNew M155 100 (List.replicate 12 (.int 0))).bind fun M156 => (dPut M156 a0 12 66 (.ref M155.length)).bind fun M157 => (dPut M157 a0 12 67 (.long 1)).bind fun M158 => (dNew M158 102 (List.replicate 5 (.int 0))).bind fun M159 => (dSet M159 M158.length 102 0 (.int 102)).bind fun M160 => (dSet M160 M158.length 102 1 (.int 105)).bind fun M161 => (dSet M161 M158.length 102 2 (.int 114)).bind fun M162 => (dSet M162 M158.length 102 3 (.int 115)).bind fun M163 => (dSet M163 M158.length 102 4 (.int 116)).bind fun M164 => (dPut M164 a0 12 68 (.ref M158.length)).bind fun M165 => (dNew M165 102 (List.replicate 4 (.int 0))).bind fun M166 => (dSet M166 M165.length 102 0 (.int 108)).bind fun M167 => (dSet M167 M165.length 102 1 (.int 97)).bind fun M168 => (dSet M168 M165.length 102 2 (.int 115)).bind fun M169 => (dSet M169 M165.length 102 3 (.int 116)).bind fun M170 => (dPut M170 a0 12 69 (.ref M165.length)).bind fun M171 => (dNew M171 102 (List.replicate 5 (.int 0))).bind fun M172 => (dSet M172 M171.length 102 0 (.int 111)).bind fun M173 => (dSet M173 M171.length 102 1 (.int 102)).bind fun M174 => (dSet M174 M171.length 102 2 (.int 116)).bind fun M175 => (dSet M175 M171.length 102 3 (.int 101)).bind fun M176 => (dSet M176 M171.length 102 4 (.int 110)).bind fun M177 => (dPut M177 a0 12 70 (.ref M171.length)).bind fun M178 => (dNew M178 102 (List.replicate 5 (.int 0))).bind fun M179 => (dSet M179 M178.length 102 0 (.int 116)).bind fun M180 => (dSet M180 M178.length 102 1 (.int 111)).bind fun M181 => (dSet M181 M178.length 102 2 (.int 116)).bind fun M182 => (dSet M182 M178.length 102 3 (.int 97)).bind fun M183 => (dSet M183 M178.length 102 4 (.int 108)).bind fun M184 => (dPut M184 a0 12 71 (.ref M178.length)).bind fun M185 => (dNew M185 102 (List.replicate 4 (.int 0))).bind fun M186 => (dSet M186 M185.length 102 0 (.int 109)).bind fun M187 => (dSet M187 M185.length 102 1 (.int 111)).bind fun M188 => (dSet M188 M185.length 102 2 (.int 115)).bind fun M189 => (dSet M189 M185.length 102 3 (.int 116)).bind fun M190 => (dPut M190 a0 12 72 (.ref M185.length)).bind fun M191 => (dNew M191 102 (List.replicate 5 (.int 0))).bind fun M192 => (dSet M192 M191.length 102 0 (.int 108)).bind fun M193 => (dSet M193 M191.length 102 1 (.int 101)).bind fun M194 => (dSet M194 M191.length 102 2 (.int 97)).bind fun M195 => (dSet M195 M191.length 102 3 (.int 115)).bind fun M196 => (dSet M196 M191.length 102 4 (.int 116)).bind fun M197 => (dPut M197 a0 12 73 (.ref M191.length)).bind fun M198 => (dNew M198 102 (List.replicate 3 (.int 0))).bind fun M199 => (dSet M199 M198.length 102 0 (.int 110)).bind fun M200 => (dSet M200 M198.length 102 1 (.int 111)).bind fun M201 => (dSet M201 M198.length 102 2 (.int 116)).bind fun M202 => (dPut M202 a0 12 74 (.ref M198.length)).bind fun M203 => (dNew M203 102 (List.replicate 3 (.int 0))).bind fun M204 => (dSet M204 M203.length 102 0 (.int 97)).bind fun M205 => (dSet M205 M203.length 102 1 (.int 110)).bind fun M206 => (dSet M206 M203.length 102 2 (.int 100)).bind fun M207 => (dPut M207 a0 12 75 (.ref M203.length)).bind fun M208 => (dNew M208 102 (List.replicate 2 (.int 0))).bind fun M209 => (dSet M209 M208.length 102 0 (.int 111)).bind fun M210 => (dSet M210 M208.length 102 1 (.int 114)).bind fun M211 => (dPut M211 a0 12 76 (.ref M208.length)).bind fun M212 => (dNew M212 102 (List.replicate 3 (.int 0))).bind fun M213 => (dSet M213 M212.length 102 0 (.int 97)).bind fun M214 => (dSet M214 M212.length 102 1 (.int 108)).bind fun M215 => (dSet M215 M212.length 102 2 (.int 108)).bind fun M216 => (dPut M216 a0 12 77 (.ref M212.length)).bind fun M217 => (dNew M217 102 (List.replicate 3 (.int 0))).bind fun M218 => (dSet M218 M217.length 102 0 (.int 109)).bind fun M219 => (dSet M219 M217.length 102 1 (.int 105)).bind fun M220 => (dSet M220 M217.length 102 2 (.int 110)).bind fun M221 => (dPut M221 a0 12 78 (.ref M217.length)).bind fun M222 => (dNew M222 102 (List.replicate 3 (.int 0))).bind fun M223 => (dSet M223 M222.length 102 0 (.int 109)).bind fun M224 => (dSet M224 M222.length 102 1 (.int 97)).bind fun M225 => (dSet M225 M222.length 102 2 (.int 120)).bind fun M226 => (dPut M226 a0 12 79 (.ref M222.length)).bind fun M227 => (dNew M227 102 (List.replicate 3 (.int 0))).bind fun M228 => (dSet M228 M227.length 102 0 (.int 98)).bind fun M229 => (dSet M229 M227.length 102 1 (.int 97)).bind fun M230 => (dSet M230 M227.length 102 2 (.int 114)).bind fun M231 => (dPut M231 a0 12 80 (.ref M227.length)).bind fun M232 => (dNew M232 102 (List.replicate 4 (.int 0))).bind fun M233 => (dSet M233 M232.length 102 0 (.int 99)).bind fun M234 => (dSet M234 M232.length 102 1 (.int 97)).bind fun M235 => (dSet M235 M232.length 102 2 (.int 109)).bind fun M236 => (dSet M236 M232.length 102 3 (.int 101)).bind fun M237 => (dPut M237 a0 12 81 (.ref M232.length)).bind fun M238 => (dNew M238 102 (List.replicate 3 (.int 0))).bind fun M239 => (dSet M239 M238.length 102 0 (.int 111)).bind fun M240 => (dSet M240 M238.length 102 1 (.int 117)).bind fun M241 => (dSet M241 M238.length 102 2 (.int 116)).bind fun M242 => (dPut M242 a0 12 82 (.ref M238.length)).bind fun M243 => (dNew M243 102 (List.replicate 5 (.int 0))).bind fun M244 => (dSet M244 M243.length 102 0 (.int 100)).bind fun M245 => (dSet M245 M243.length 102 1 (.int 114)).bind fun M246 => (dSet M246 M243.length 102 2 (.int 117)).bind fun M247 => (dSet M247 M243.length 102 3 (.int 110)).bind fun M248 => (dSet M248 M243.length 102 4 (.int 107)).bind fun M249 => (dPut M249 a0 12 83 (.ref M243.length)).bind fun M250 => (dNew M250 102 (List.replicate 5 (.int 0))).bind fun M251 => (dSet M251 M250.length 102 0 (.int 115)).bind fun M252 => (dSet M252 M250.length 102 1 (.int 112)).bind fun M253 => (dSet M253 M250.length 102 2 (.int 105)).bind fun M254 => (dSet M254 M250.length 102 3 (.int 108)).bind fun M255 => (dSet M255 M250.length 102 4 (.int 116)).bind fun M256 => (dPut M256 a0 12 84 (.ref M250.length)).bind fun M257 => (dNew M257 102 (List.replicate 6 (.int 0))).bind fun M258 => (dSet M258 M257.length 102 0 (.int 116)).bind fun M259 => (dSet M259 M257.length 102 1 (.int 114)).bind fun M260 => (dSet M260 M257.length 102 2 (.int 105)).bind fun M261 => (dSet M261 M257.length 102 3 (.int 108)).bind fun M262 => (dSet M262 M257.length 102 4 (.int 108)).bind fun M263 => (dSet M263 M257.length 102 5 (.int 115)).bind fun M264 => (dPut M264 a0 12 85 (.ref M257.length)).bind fun M265 => (dNew M265 102 (List.replicate 4 (.int 0))).bind fun M266 => (dSet M266 M265.length 102 0 (.int 100)).bind fun M267 => (dSet M267 M265.length 102 1 (.int 101)).bind fun M268 => (dSet M268 M265.length 102 2 (.int 101)).bind fun M269 => (dSet M269 M265.length 102 3 (.int 112)).bind fun M270 => (dPut M270 a0 12 86 (.ref M265.length)).bind fun M271 => (dNew M271 102 (List.replicate 4 (.int 0))).bind fun M272 => (dSet M272 M271.length 102 0 (.int 98)).bind fun M273 => (dSet M273 M271.length 102 1 (.int 111)).bind fun M274 => (dSet M274 M271.length 102 2 (.int 97)).bind fun M275 => (dSet M275 M271.length 102 3 (.int 116)).bind fun M276 => (dPut M276 a0 12 87 (.ref M271.length)).bind fun M277 => (dNew M277 100 (List.replicate 1700 (.int 0))).bind fun M278 => (dPut M278 a0 12 88 (.ref M277.length)).bind fun M279 => (dNew M279 100 (List.replicate 1700 (.int 0))).bind fun M280 => (dPut M280 a0 12 90 (.ref M279.length)).bind fun M281 => (dNew M281 101 (List.replicate 1700 (.long 0))).bind fun M282 => (dPut M282 a0 12 94 (.ref M281.length)).bind fun M283 => (dNew M283 100 (List.replicate 489 (.int 0))).bind fun M284 => (dPut M284 a0 12 98 (.ref M283.length)).bind fun M285 => some M285
section
variable {p : Program} {l : Launch} {e : Env} {R : Room} {s : State} {m : MethodId} {args : Array Value} {below : List Frame} {meth : Method} {c : Code} {G : JG} {D : Nat} {Q : State → Prop}
set_option maxHeartbeats 4000000 in
set_option maxRecDepth 100000 in
theorem KD_Mo_init (C : jCx p R s m args meth c G jb_Mo_init 1 D "SluicePitModel") (F : jF G = true) (hD : 1 ≤ D) (hname : meth.name = "<init>") (hRc : 63 ≤ R.cells) (hRs : 19711 ≤ R.slots) (a0 : Nat) (M : DM) (X : DM → Prop) (hR : ∀ M', X M' → ∀ (pc : Nat) (ls : List (Option Value)), decode jb_Mo_init pc = .ok (.return_, 1) → Wk p l e R s m args below meth c G 1 Q 63 19711 M'.length (dce G M') pc ls []) : J X (fd_Mo_init a0 M) (Wk p l e R s m args below meth c G 1 Q 0 0 M.length (dce G M) 0 [some (.ref a0)] []) := by
  unfold fd_Mo_init
  refine J_mono (w_aload_n C (jd jdt_Mo_init_0 0 rfl) rfl) ?_
  refine J_mono (d_objInit C jw_1166 rfl (jd jdt_Mo_init_0 1 rfl)) ?_
  refine J_mono (w_aload_n C (jd jdt_Mo_init_0 2 rfl) rfl) ?_
  refine J_mono (w_sipush_1600 C (jd jdt_Mo_init_0 3 rfl)) ?_
  refine J_bind (fun M1 hM1 => ?_)
  refine J_mono (d_newa (at_ := .int) C F hM1 jw_45 rfl (Or.inl ⟨rfl, rfl, rfl⟩) (by decide) (by decide) (by decide) (Nat.le_trans (Nat.le_of_ble_eq_true rfl : 1 ≤ 63) hRc) (Nat.le_trans (Nat.le_of_ble_eq_true rfl : 1600 ≤ 19711) hRs) (jd jdt_Mo_init_0 4 rfl)) ?_
  refine J_bind (fun M2 hM2 => ?_)
  refine J_mono (d_put (Cl := "SluicePitModel") (T := jT12) (Y := jY12) (N := 100) C F hM2 (by decide) rfl jin12 jY12_ok jnm12 (by decide) jw_1167 rfl (Or.inr ⟨rfl, hname, rfl⟩) rfl rfl (jd jdt_Mo_init_0 5 rfl)) ?_
  refine J_mono (w_aload_n C (jd jdt_Mo_init_0 6 rfl) rfl) ?_
  refine J_mono (w_iconst_m1 C (jd jdt_Mo_init_0 7 rfl)) ?_
  refine J_bind (fun M3 hM3 => ?_)
  refine J_mono (d_put (Cl := "SluicePitModel") (T := jT12) (Y := jY12) (N := 100) C F hM3 (by decide) rfl jin12 jY12_ok jnm12 (by decide) jw_1175 rfl (Or.inl rfl) rfl rfl (jd jdt_Mo_init_0 8 rfl)) ?_
  refine J_mono (w_aload_n C (jd jdt_Mo_init_0 9 rfl) rfl) ?_
  refine J_mono (w_iconst_5 C (jd jdt_Mo_init_0 10 rfl)) ?_
  refine J_bind (fun M4 hM4 => ?_)
  refine J_mono (d_newa (at_ := .char) C F hM4 jw_1468 rfl (Or.inr (Or.inr ⟨rfl, rfl, rfl⟩)) (by decide) (by decide) (by decide) (Nat.le_trans (Nat.le_of_ble_eq_true rfl : 2 ≤ 63) hRc) (Nat.le_trans (Nat.le_of_ble_eq_true rfl : 1605 ≤ 19711) hRs) (jd jdt_Mo_init_0 11 rfl)) ?_
  refine J_mono (w_dup_r C (jd jdt_Mo_init_0 12 rfl)) ?_
  refine J_mono (w_iconst_0 C (jd jdt_Mo_init_0 13 rfl)) ?_
  refine J_mono (w_bipush_114 C (jd jdt_Mo_init_0 14 rfl)) ?_
  refine J_bind (fun M5 hM5 => ?_)
  refine J_mono (d_cast C F hM5 rfl (jd jdt_Mo_init_0 15 rfl)) ?_
  refine J_mono (w_dup_r C (jd jdt_Mo_init_0 16 rfl)) ?_
  refine J_mono (w_iconst_1 C (jd jdt_Mo_init_0 17 rfl)) ?_
  refine J_mono (w_bipush_105 C (jd jdt_Mo_init_0 18 rfl)) ?_
  refine J_bind (fun M6 hM6 => ?_)
  refine J_mono (d_cast C F hM6 rfl (jd jdt_Mo_init_0 19 rfl)) ?_
  refine J_mono (w_dup_r C (jd jdt_Mo_init_0 20 rfl)) ?_
  refine J_mono (w_iconst_2 C (jd jdt_Mo_init_0 21 rfl)) ?_
  refine J_mono (w_bipush_118 C (jd jdt_Mo_init_0 22 rfl)) ?_
  refine J_bind (fun M7 hM7 => ?_)
  refine J_mono (d_cast C F hM7 rfl (jd jdt_Mo_init_0 23 rfl)) ?_
  refine J_mono (w_dup_r C (jd jdt_Mo_init_0 24 rfl)) ?_
  refine J_mono (w_iconst_3 C (jd jdt_Mo_init_0 25 rfl)) ?_
  refine J_mono (w_bipush_101 C (jd jdt_Mo_init_0 26 rfl)) ?_
  refine J_bind (fun M8 hM8 => ?_)
  refine J_mono (d_cast C F hM8 rfl (jd jdt_Mo_init_0 27 rfl)) ?_
  refine J_mono (w_dup_r C (jd jdt_Mo_init_0 28 rfl)) ?_
  refine J_mono (w_iconst_4 C (jd jdt_Mo_init_0 29 rfl)) ?_
  refine J_mono (w_bipush_114 C (jd jdt_Mo_init_0 30 rfl)) ?_
  refine J_bind (fun M9 hM9 => ?_)
  refine J_mono (d_cast C F hM9 rfl (jd jdt_Mo_init_0 31 rfl)) ?_
  refine J_bind (fun M10 hM10 => ?_)
  refine J_mono (d_put (Cl := "SluicePitModel") (T := jT12) (Y := jY12) (N := 100) C F hM10 (by decide) rfl jin12 jY12_ok jnm12 (by decide) jw_1177 rfl (Or.inr ⟨rfl, hname, rfl⟩) rfl rfl (jd jdt_Mo_init_0 32 rfl)) ?_
  refine J_mono (w_aload_n C (jd jdt_Mo_init_0 33 rfl) rfl) ?_
  refine J_mono (w_iconst_3 C (jd jdt_Mo_init_0 34 rfl)) ?_
  refine J_bind (fun M11 hM11 => ?_)
  refine J_mono (d_newa (at_ := .char) C F hM11 jw_1468 rfl (Or.inr (Or.inr ⟨rfl, rfl, rfl⟩)) (by decide) (by decide) (by decide) (Nat.le_trans (Nat.le_of_ble_eq_true rfl : 3 ≤ 63) hRc) (Nat.le_trans (Nat.le_of_ble_eq_true rfl : 1608 ≤ 19711) hRs) (jd jdt_Mo_init_0 35 rfl)) ?_
  refine J_mono (w_dup_r C (jd jdt_Mo_init_0 36 rfl)) ?_
  refine J_mono (w_iconst_0 C (jd jdt_Mo_init_0 37 rfl)) ?_
  refine J_mono (w_bipush_98 C (jd jdt_Mo_init_0 38 rfl)) ?_
  refine J_bind (fun M12 hM12 => ?_)
  refine J_mono (d_cast C F hM12 rfl (jd jdt_Mo_init_0 39 rfl)) ?_
  refine J_mono (w_dup_r C (jd jdt_Mo_init_1 0 rfl)) ?_
  refine J_mono (w_iconst_1 C (jd jdt_Mo_init_1 1 rfl)) ?_
  refine J_mono (w_bipush_101 C (jd jdt_Mo_init_1 2 rfl)) ?_
  refine J_bind (fun M13 hM13 => ?_)
  refine J_mono (d_cast C F hM13 rfl (jd jdt_Mo_init_1 3 rfl)) ?_
  refine J_mono (w_dup_r C (jd jdt_Mo_init_1 4 rfl)) ?_
  refine J_mono (w_iconst_2 C (jd jdt_Mo_init_1 5 rfl)) ?_
  refine J_mono (w_bipush_100 C (jd jdt_Mo_init_1 6 rfl)) ?_
  refine J_bind (fun M14 hM14 => ?_)
  refine J_mono (d_cast C F hM14 rfl (jd jdt_Mo_init_1 7 rfl)) ?_
  refine J_bind (fun M15 hM15 => ?_)
  refine J_mono (d_put (Cl := "SluicePitModel") (T := jT12) (Y := jY12) (N := 100) C F hM15 (by decide) rfl jin12 jY12_ok jnm12 (by decide) jw_1178 rfl (Or.inr ⟨rfl, hname, rfl⟩) rfl rfl (jd jdt_Mo_init_1 8 rfl)) ?_
  refine J_mono (w_aload_n C (jd jdt_Mo_init_1 9 rfl) rfl) ?_
  refine J_mono (w_iconst_2 C (jd jdt_Mo_init_1 10 rfl)) ?_
  refine J_bind (fun M16 hM16 => ?_)
  refine J_mono (d_newa (at_ := .char) C F hM16 jw_1468 rfl (Or.inr (Or.inr ⟨rfl, rfl, rfl⟩)) (by decide) (by decide) (by decide) (Nat.le_trans (Nat.le_of_ble_eq_true rfl : 4 ≤ 63) hRc) (Nat.le_trans (Nat.le_of_ble_eq_true rfl : 1610 ≤ 19711) hRs) (jd jdt_Mo_init_1 11 rfl)) ?_
  refine J_mono (w_dup_r C (jd jdt_Mo_init_1 12 rfl)) ?_
  refine J_mono (w_iconst_0 C (jd jdt_Mo_init_1 13 rfl)) ?_
  refine J_mono (w_bipush_97 C (jd jdt_Mo_init_1 14 rfl)) ?_
  refine J_bind (fun M17 hM17 => ?_)
  refine J_mono (d_cast C F hM17 rfl (jd jdt_Mo_init_1 15 rfl)) ?_
  refine J_mono (w_dup_r C (jd jdt_Mo_init_1 16 rfl)) ?_
  refine J_mono (w_iconst_1 C (jd jdt_Mo_init_1 17 rfl)) ?_
  refine J_mono (w_bipush_116 C (jd jdt_Mo_init_1 18 rfl)) ?_
  refine J_bind (fun M18 hM18 => ?_)
  refine J_mono (d_cast C F hM18 rfl (jd jdt_Mo_init_1 19 rfl)) ?_
  refine J_bind (fun M19 hM19 => ?_)
  refine J_mono (d_put (Cl := "SluicePitModel") (T := jT12) (Y := jY12) (N := 100) C F hM19 (by decide) rfl jin12 jY12_ok jnm12 (by decide) jw_1179 rfl (Or.inr ⟨rfl, hname, rfl⟩) rfl rfl (jd jdt_Mo_init_1 20 rfl)) ?_
  refine J_mono (w_aload_n C (jd jdt_Mo_init_1 21 rfl) rfl) ?_
  refine J_mono (w_iconst_5 C (jd jdt_Mo_init_1 22 rfl)) ?_
  refine J_bind (fun M20 hM20 => ?_)
  refine J_mono (d_newa (at_ := .char) C F hM20 jw_1468 rfl (Or.inr (Or.inr ⟨rfl, rfl, rfl⟩)) (by decide) (by decide) (by decide) (Nat.le_trans (Nat.le_of_ble_eq_true rfl : 5 ≤ 63) hRc) (Nat.le_trans (Nat.le_of_ble_eq_true rfl : 1615 ≤ 19711) hRs) (jd jdt_Mo_init_1 23 rfl)) ?_
  refine J_mono (w_dup_r C (jd jdt_Mo_init_1 24 rfl)) ?_
  refine J_mono (w_iconst_0 C (jd jdt_Mo_init_1 25 rfl)) ?_
  refine J_mono (w_bipush_119 C (jd jdt_Mo_init_1 26 rfl)) ?_
  refine J_bind (fun M21 hM21 => ?_)
  refine J_mono (d_cast C F hM21 rfl (jd jdt_Mo_init_1 27 rfl)) ?_
  refine J_mono (w_dup_r C (jd jdt_Mo_init_1 28 rfl)) ?_
  refine J_mono (w_iconst_1 C (jd jdt_Mo_init_1 29 rfl)) ?_
  refine J_mono (w_bipush_97 C (jd jdt_Mo_init_1 30 rfl)) ?_
  refine J_bind (fun M22 hM22 => ?_)
  refine J_mono (d_cast C F hM22 rfl (jd jdt_Mo_init_1 31 rfl)) ?_
  refine J_mono (w_dup_r C (jd jdt_Mo_init_1 32 rfl)) ?_
  refine J_mono (w_iconst_2 C (jd jdt_Mo_init_1 33 rfl)) ?_
  refine J_mono (w_bipush_116 C (jd jdt_Mo_init_1 34 rfl)) ?_
  refine J_bind (fun M23 hM23 => ?_)
  refine J_mono (d_cast C F hM23 rfl (jd jdt_Mo_init_1 35 rfl)) ?_
  refine J_mono (w_dup_r C (jd jdt_Mo_init_1 36 rfl)) ?_
  refine J_mono (w_iconst_3 C (jd jdt_Mo_init_1 37 rfl)) ?_
  refine J_mono (w_bipush_101 C (jd jdt_Mo_init_1 38 rfl)) ?_
  refine J_bind (fun M24 hM24 => ?_)
  refine J_mono (d_cast C F hM24 rfl (jd jdt_Mo_init_1 39 rfl)) ?_
  refine J_mono (w_dup_r C (jd jdt_Mo_init_2 0 rfl)) ?_
  refine J_mono (w_iconst_4 C (jd jdt_Mo_init_2 1 rfl)) ?_
  refine J_mono (w_bipush_114 C (jd jdt_Mo_init_2 2 rfl)) ?_
  refine J_bind (fun M25 hM25 => ?_)
  refine J_mono (d_cast C F hM25 rfl (jd jdt_Mo_init_2 3 rfl)) ?_
  refine J_bind (fun M26 hM26 => ?_)
  refine J_mono (d_put (Cl := "SluicePitModel") (T := jT12) (Y := jY12) (N := 100) C F hM26 (by decide) rfl jin12 jY12_ok jnm12 (by decide) jw_1180 rfl (Or.inr ⟨rfl, hname, rfl⟩) rfl rfl (jd jdt_Mo_init_2 4 rfl)) ?_
  refine J_mono (w_aload_n C (jd jdt_Mo_init_2 5 rfl) rfl) ?_
  refine J_mono (w_iconst_4 C (jd jdt_Mo_init_2 6 rfl)) ?_
  refine J_bind (fun M27 hM27 => ?_)
  refine J_mono (d_newa (at_ := .char) C F hM27 jw_1468 rfl (Or.inr (Or.inr ⟨rfl, rfl, rfl⟩)) (by decide) (by decide) (by decide) (Nat.le_trans (Nat.le_of_ble_eq_true rfl : 6 ≤ 63) hRc) (Nat.le_trans (Nat.le_of_ble_eq_true rfl : 1619 ≤ 19711) hRs) (jd jdt_Mo_init_2 7 rfl)) ?_
  refine J_mono (w_dup_r C (jd jdt_Mo_init_2 8 rfl)) ?_
  refine J_mono (w_iconst_0 C (jd jdt_Mo_init_2 9 rfl)) ?_
  refine J_mono (w_bipush_100 C (jd jdt_Mo_init_2 10 rfl)) ?_
  refine J_bind (fun M28 hM28 => ?_)
  refine J_mono (d_cast C F hM28 rfl (jd jdt_Mo_init_2 11 rfl)) ?_
  refine J_mono (w_dup_r C (jd jdt_Mo_init_2 12 rfl)) ?_
  refine J_mono (w_iconst_1 C (jd jdt_Mo_init_2 13 rfl)) ?_
  refine J_mono (w_bipush_101 C (jd jdt_Mo_init_2 14 rfl)) ?_
  refine J_bind (fun M29 hM29 => ?_)
  refine J_mono (d_cast C F hM29 rfl (jd jdt_Mo_init_2 15 rfl)) ?_
  refine J_mono (w_dup_r C (jd jdt_Mo_init_2 16 rfl)) ?_
  refine J_mono (w_iconst_2 C (jd jdt_Mo_init_2 17 rfl)) ?_
  refine J_mono (w_bipush_115 C (jd jdt_Mo_init_2 18 rfl)) ?_
  refine J_bind (fun M30 hM30 => ?_)
  refine J_mono (d_cast C F hM30 rfl (jd jdt_Mo_init_2 19 rfl)) ?_
  refine J_mono (w_dup_r C (jd jdt_Mo_init_2 20 rfl)) ?_
  refine J_mono (w_iconst_3 C (jd jdt_Mo_init_2 21 rfl)) ?_
  refine J_mono (w_bipush_107 C (jd jdt_Mo_init_2 22 rfl)) ?_
  refine J_bind (fun M31 hM31 => ?_)
  refine J_mono (d_cast C F hM31 rfl (jd jdt_Mo_init_2 23 rfl)) ?_
  refine J_bind (fun M32 hM32 => ?_)
  refine J_mono (d_put (Cl := "SluicePitModel") (T := jT12) (Y := jY12) (N := 100) C F hM32 (by decide) rfl jin12 jY12_ok jnm12 (by decide) jw_1181 rfl (Or.inr ⟨rfl, hname, rfl⟩) rfl rfl (jd jdt_Mo_init_2 24 rfl)) ?_
  refine J_mono (w_aload_n C (jd jdt_Mo_init_2 25 rfl) rfl) ?_
  refine J_mono (w_iconst_4 C (jd jdt_Mo_init_2 26 rfl)) ?_
  refine J_bind (fun M33 hM33 => ?_)
  refine J_mono (d_newa (at_ := .char) C F hM33 jw_1468 rfl (Or.inr (Or.inr ⟨rfl, rfl, rfl⟩)) (by decide) (by decide) (by decide) (Nat.le_trans (Nat.le_of_ble_eq_true rfl : 7 ≤ 63) hRc) (Nat.le_trans (Nat.le_of_ble_eq_true rfl : 1623 ≤ 19711) hRs) (jd jdt_Mo_init_2 27 rfl)) ?_
  refine J_mono (w_dup_r C (jd jdt_Mo_init_2 28 rfl)) ?_
  refine J_mono (w_iconst_0 C (jd jdt_Mo_init_2 29 rfl)) ?_
  refine J_mono (w_bipush_97 C (jd jdt_Mo_init_2 30 rfl)) ?_
  refine J_bind (fun M34 hM34 => ?_)
  refine J_mono (d_cast C F hM34 rfl (jd jdt_Mo_init_2 31 rfl)) ?_
  refine J_mono (w_dup_r C (jd jdt_Mo_init_2 32 rfl)) ?_
  refine J_mono (w_iconst_1 C (jd jdt_Mo_init_2 33 rfl)) ?_
  refine J_mono (w_bipush_114 C (jd jdt_Mo_init_2 34 rfl)) ?_
  refine J_bind (fun M35 hM35 => ?_)
  refine J_mono (d_cast C F hM35 rfl (jd jdt_Mo_init_2 35 rfl)) ?_
  refine J_mono (w_dup_r C (jd jdt_Mo_init_2 36 rfl)) ?_
  refine J_mono (w_iconst_2 C (jd jdt_Mo_init_2 37 rfl)) ?_
  refine J_mono (w_bipush_109 C (jd jdt_Mo_init_2 38 rfl)) ?_
  refine J_bind (fun M36 hM36 => ?_)
  refine J_mono (d_cast C F hM36 rfl (jd jdt_Mo_init_2 39 rfl)) ?_
  refine J_mono (w_dup_r C (jd jdt_Mo_init_3 0 rfl)) ?_
  refine J_mono (w_iconst_3 C (jd jdt_Mo_init_3 1 rfl)) ?_
  refine J_mono (w_bipush_115 C (jd jdt_Mo_init_3 2 rfl)) ?_
  refine J_bind (fun M37 hM37 => ?_)
  refine J_mono (d_cast C F hM37 rfl (jd jdt_Mo_init_3 3 rfl)) ?_
  refine J_bind (fun M38 hM38 => ?_)
  refine J_mono (d_put (Cl := "SluicePitModel") (T := jT12) (Y := jY12) (N := 100) C F hM38 (by decide) rfl jin12 jY12_ok jnm12 (by decide) jw_1182 rfl (Or.inr ⟨rfl, hname, rfl⟩) rfl rfl (jd jdt_Mo_init_3 4 rfl)) ?_
  refine J_mono (w_aload_n C (jd jdt_Mo_init_3 5 rfl) rfl) ?_
  refine J_mono (w_iconst_5 C (jd jdt_Mo_init_3 6 rfl)) ?_
  refine J_bind (fun M39 hM39 => ?_)
  refine J_mono (d_newa (at_ := .char) C F hM39 jw_1468 rfl (Or.inr (Or.inr ⟨rfl, rfl, rfl⟩)) (by decide) (by decide) (by decide) (Nat.le_trans (Nat.le_of_ble_eq_true rfl : 8 ≤ 63) hRc) (Nat.le_trans (Nat.le_of_ble_eq_true rfl : 1628 ≤ 19711) hRs) (jd jdt_Mo_init_3 7 rfl)) ?_
  refine J_mono (w_dup_r C (jd jdt_Mo_init_3 8 rfl)) ?_
  refine J_mono (w_iconst_0 C (jd jdt_Mo_init_3 9 rfl)) ?_
  refine J_mono (w_bipush_112 C (jd jdt_Mo_init_3 10 rfl)) ?_
  refine J_bind (fun M40 hM40 => ?_)
  refine J_mono (d_cast C F hM40 rfl (jd jdt_Mo_init_3 11 rfl)) ?_
  refine J_mono (w_dup_r C (jd jdt_Mo_init_3 12 rfl)) ?_
  refine J_mono (w_iconst_1 C (jd jdt_Mo_init_3 13 rfl)) ?_
  refine J_mono (w_bipush_108 C (jd jdt_Mo_init_3 14 rfl)) ?_
  refine J_bind (fun M41 hM41 => ?_)
  refine J_mono (d_cast C F hM41 rfl (jd jdt_Mo_init_3 15 rfl)) ?_
  refine J_mono (w_dup_r C (jd jdt_Mo_init_3 16 rfl)) ?_
  refine J_mono (w_iconst_2 C (jd jdt_Mo_init_3 17 rfl)) ?_
  refine J_mono (w_bipush_97 C (jd jdt_Mo_init_3 18 rfl)) ?_
  refine J_bind (fun M42 hM42 => ?_)
  refine J_mono (d_cast C F hM42 rfl (jd jdt_Mo_init_3 19 rfl)) ?_
  refine J_mono (w_dup_r C (jd jdt_Mo_init_3 20 rfl)) ?_
  refine J_mono (w_iconst_3 C (jd jdt_Mo_init_3 21 rfl)) ?_
  refine J_mono (w_bipush_121 C (jd jdt_Mo_init_3 22 rfl)) ?_
  refine J_bind (fun M43 hM43 => ?_)
  refine J_mono (d_cast C F hM43 rfl (jd jdt_Mo_init_3 23 rfl)) ?_
  refine J_mono (w_dup_r C (jd jdt_Mo_init_3 24 rfl)) ?_
  refine J_mono (w_iconst_4 C (jd jdt_Mo_init_3 25 rfl)) ?_
  refine J_mono (w_bipush_115 C (jd jdt_Mo_init_3 26 rfl)) ?_
  refine J_bind (fun M44 hM44 => ?_)
  refine J_mono (d_cast C F hM44 rfl (jd jdt_Mo_init_3 27 rfl)) ?_
  refine J_bind (fun M45 hM45 => ?_)
  refine J_mono (d_put (Cl := "SluicePitModel") (T := jT12) (Y := jY12) (N := 100) C F hM45 (by decide) rfl jin12 jY12_ok jnm12 (by decide) jw_1183 rfl (Or.inr ⟨rfl, hname, rfl⟩) rfl rfl (jd jdt_Mo_init_3 28 rfl)) ?_
  refine J_mono (w_aload_n C (jd jdt_Mo_init_3 29 rfl) rfl) ?_
  refine J_mono (w_iconst_3 C (jd jdt_Mo_init_3 30 rfl)) ?_
  refine J_bind (fun M46 hM46 => ?_)
  refine J_mono (d_newa (at_ := .char) C F hM46 jw_1468 rfl (Or.inr (Or.inr ⟨rfl, rfl, rfl⟩)) (by decide) (by decide) (by decide) (Nat.le_trans (Nat.le_of_ble_eq_true rfl : 9 ≤ 63) hRc) (Nat.le_trans (Nat.le_of_ble_eq_true rfl : 1631 ≤ 19711) hRs) (jd jdt_Mo_init_3 31 rfl)) ?_
  refine J_mono (w_dup_r C (jd jdt_Mo_init_3 32 rfl)) ?_
  refine J_mono (w_iconst_0 C (jd jdt_Mo_init_3 33 rfl)) ?_
  refine J_mono (w_bipush_112 C (jd jdt_Mo_init_3 34 rfl)) ?_
  refine J_bind (fun M47 hM47 => ?_)
  refine J_mono (d_cast C F hM47 rfl (jd jdt_Mo_init_3 35 rfl)) ?_
  refine J_mono (w_dup_r C (jd jdt_Mo_init_3 36 rfl)) ?_
  refine J_mono (w_iconst_1 C (jd jdt_Mo_init_3 37 rfl)) ?_
  refine J_mono (w_bipush_105 C (jd jdt_Mo_init_3 38 rfl)) ?_
  refine J_bind (fun M48 hM48 => ?_)
  refine J_mono (d_cast C F hM48 rfl (jd jdt_Mo_init_3 39 rfl)) ?_
  refine J_mono (w_dup_r C (jd jdt_Mo_init_4 0 rfl)) ?_
  refine J_mono (w_iconst_2 C (jd jdt_Mo_init_4 1 rfl)) ?_
  refine J_mono (w_bipush_116 C (jd jdt_Mo_init_4 2 rfl)) ?_
  refine J_bind (fun M49 hM49 => ?_)
  refine J_mono (d_cast C F hM49 rfl (jd jdt_Mo_init_4 3 rfl)) ?_
  refine J_bind (fun M50 hM50 => ?_)
  refine J_mono (d_put (Cl := "SluicePitModel") (T := jT12) (Y := jY12) (N := 100) C F hM50 (by decide) rfl jin12 jY12_ok jnm12 (by decide) jw_1184 rfl (Or.inr ⟨rfl, hname, rfl⟩) rfl rfl (jd jdt_Mo_init_4 4 rfl)) ?_
  refine J_mono (w_aload_n C (jd jdt_Mo_init_4 5 rfl) rfl) ?_
  refine J_mono (w_bipush_6 C (jd jdt_Mo_init_4 6 rfl)) ?_
  refine J_bind (fun M51 hM51 => ?_)
  refine J_mono (d_newa (at_ := .char) C F hM51 jw_1468 rfl (Or.inr (Or.inr ⟨rfl, rfl, rfl⟩)) (by decide) (by decide) (by decide) (Nat.le_trans (Nat.le_of_ble_eq_true rfl : 10 ≤ 63) hRc) (Nat.le_trans (Nat.le_of_ble_eq_true rfl : 1637 ≤ 19711) hRs) (jd jdt_Mo_init_4 7 rfl)) ?_
  refine J_mono (w_dup_r C (jd jdt_Mo_init_4 8 rfl)) ?_
  refine J_mono (w_iconst_0 C (jd jdt_Mo_init_4 9 rfl)) ?_
  refine J_mono (w_bipush_115 C (jd jdt_Mo_init_4 10 rfl)) ?_
  refine J_bind (fun M52 hM52 => ?_)
  refine J_mono (d_cast C F hM52 rfl (jd jdt_Mo_init_4 11 rfl)) ?_
  refine J_mono (w_dup_r C (jd jdt_Mo_init_4 12 rfl)) ?_
  refine J_mono (w_iconst_1 C (jd jdt_Mo_init_4 13 rfl)) ?_
  refine J_mono (w_bipush_108 C (jd jdt_Mo_init_4 14 rfl)) ?_
  refine J_bind (fun M53 hM53 => ?_)
  refine J_mono (d_cast C F hM53 rfl (jd jdt_Mo_init_4 15 rfl)) ?_
  refine J_mono (w_dup_r C (jd jdt_Mo_init_4 16 rfl)) ?_
  refine J_mono (w_iconst_2 C (jd jdt_Mo_init_4 17 rfl)) ?_
  refine J_mono (w_bipush_117 C (jd jdt_Mo_init_4 18 rfl)) ?_
  refine J_bind (fun M54 hM54 => ?_)
  refine J_mono (d_cast C F hM54 rfl (jd jdt_Mo_init_4 19 rfl)) ?_
  refine J_mono (w_dup_r C (jd jdt_Mo_init_4 20 rfl)) ?_
  refine J_mono (w_iconst_3 C (jd jdt_Mo_init_4 21 rfl)) ?_
  refine J_mono (w_bipush_105 C (jd jdt_Mo_init_4 22 rfl)) ?_
  refine J_bind (fun M55 hM55 => ?_)
  refine J_mono (d_cast C F hM55 rfl (jd jdt_Mo_init_4 23 rfl)) ?_
  refine J_mono (w_dup_r C (jd jdt_Mo_init_4 24 rfl)) ?_
  refine J_mono (w_iconst_4 C (jd jdt_Mo_init_4 25 rfl)) ?_
  refine J_mono (w_bipush_99 C (jd jdt_Mo_init_4 26 rfl)) ?_
  refine J_bind (fun M56 hM56 => ?_)
  refine J_mono (d_cast C F hM56 rfl (jd jdt_Mo_init_4 27 rfl)) ?_
  refine J_mono (w_dup_r C (jd jdt_Mo_init_4 28 rfl)) ?_
  refine J_mono (w_iconst_5 C (jd jdt_Mo_init_4 29 rfl)) ?_
  refine J_mono (w_bipush_101 C (jd jdt_Mo_init_4 30 rfl)) ?_
  refine J_bind (fun M57 hM57 => ?_)
  refine J_mono (d_cast C F hM57 rfl (jd jdt_Mo_init_4 31 rfl)) ?_
  refine J_bind (fun M58 hM58 => ?_)
  refine J_mono (d_put (Cl := "SluicePitModel") (T := jT12) (Y := jY12) (N := 100) C F hM58 (by decide) rfl jin12 jY12_ok jnm12 (by decide) jw_1185 rfl (Or.inr ⟨rfl, hname, rfl⟩) rfl rfl (jd jdt_Mo_init_4 32 rfl)) ?_
  refine J_mono (w_aload_n C (jd jdt_Mo_init_4 33 rfl) rfl) ?_
  refine J_mono (w_iconst_4 C (jd jdt_Mo_init_4 34 rfl)) ?_
  refine J_bind (fun M59 hM59 => ?_)
  refine J_mono (d_newa (at_ := .char) C F hM59 jw_1468 rfl (Or.inr (Or.inr ⟨rfl, rfl, rfl⟩)) (by decide) (by decide) (by decide) (Nat.le_trans (Nat.le_of_ble_eq_true rfl : 11 ≤ 63) hRc) (Nat.le_trans (Nat.le_of_ble_eq_true rfl : 1641 ≤ 19711) hRs) (jd jdt_Mo_init_4 35 rfl)) ?_
  refine J_mono (w_dup_r C (jd jdt_Mo_init_4 36 rfl)) ?_
  refine J_mono (w_iconst_0 C (jd jdt_Mo_init_4 37 rfl)) ?_
  refine J_mono (w_bipush_109 C (jd jdt_Mo_init_4 38 rfl)) ?_
  refine J_bind (fun M60 hM60 => ?_)
  refine J_mono (d_cast C F hM60 rfl (jd jdt_Mo_init_4 39 rfl)) ?_
  refine J_mono (w_dup_r C (jd jdt_Mo_init_5 0 rfl)) ?_
  refine J_mono (w_iconst_1 C (jd jdt_Mo_init_5 1 rfl)) ?_
  refine J_mono (w_bipush_105 C (jd jdt_Mo_init_5 2 rfl)) ?_
  refine J_bind (fun M61 hM61 => ?_)
  refine J_mono (d_cast C F hM61 rfl (jd jdt_Mo_init_5 3 rfl)) ?_
  refine J_mono (w_dup_r C (jd jdt_Mo_init_5 4 rfl)) ?_
  refine J_mono (w_iconst_2 C (jd jdt_Mo_init_5 5 rfl)) ?_
  refine J_mono (w_bipush_108 C (jd jdt_Mo_init_5 6 rfl)) ?_
  refine J_bind (fun M62 hM62 => ?_)
  refine J_mono (d_cast C F hM62 rfl (jd jdt_Mo_init_5 7 rfl)) ?_
  refine J_mono (w_dup_r C (jd jdt_Mo_init_5 8 rfl)) ?_
  refine J_mono (w_iconst_3 C (jd jdt_Mo_init_5 9 rfl)) ?_
  refine J_mono (w_bipush_108 C (jd jdt_Mo_init_5 10 rfl)) ?_
  refine J_bind (fun M63 hM63 => ?_)
  refine J_mono (d_cast C F hM63 rfl (jd jdt_Mo_init_5 11 rfl)) ?_
  refine J_bind (fun M64 hM64 => ?_)
  refine J_mono (d_put (Cl := "SluicePitModel") (T := jT12) (Y := jY12) (N := 100) C F hM64 (by decide) rfl jin12 jY12_ok jnm12 (by decide) jw_1186 rfl (Or.inr ⟨rfl, hname, rfl⟩) rfl rfl (jd jdt_Mo_init_5 12 rfl)) ?_
  refine J_mono (w_aload_n C (jd jdt_Mo_init_5 13 rfl) rfl) ?_
  refine J_mono (w_iconst_5 C (jd jdt_Mo_init_5 14 rfl)) ?_
  refine J_bind (fun M65 hM65 => ?_)
  refine J_mono (d_newa (at_ := .char) C F hM65 jw_1468 rfl (Or.inr (Or.inr ⟨rfl, rfl, rfl⟩)) (by decide) (by decide) (by decide) (Nat.le_trans (Nat.le_of_ble_eq_true rfl : 12 ≤ 63) hRc) (Nat.le_trans (Nat.le_of_ble_eq_true rfl : 1646 ≤ 19711) hRs) (jd jdt_Mo_init_5 15 rfl)) ?_
  refine J_mono (w_dup_r C (jd jdt_Mo_init_5 16 rfl)) ?_
  refine J_mono (w_iconst_0 C (jd jdt_Mo_init_5 17 rfl)) ?_
  refine J_mono (w_bipush_110 C (jd jdt_Mo_init_5 18 rfl)) ?_
  refine J_bind (fun M66 hM66 => ?_)
  refine J_mono (d_cast C F hM66 rfl (jd jdt_Mo_init_5 19 rfl)) ?_
  refine J_mono (w_dup_r C (jd jdt_Mo_init_5 20 rfl)) ?_
  refine J_mono (w_iconst_1 C (jd jdt_Mo_init_5 21 rfl)) ?_
  refine J_mono (w_bipush_101 C (jd jdt_Mo_init_5 22 rfl)) ?_
  refine J_bind (fun M67 hM67 => ?_)
  refine J_mono (d_cast C F hM67 rfl (jd jdt_Mo_init_5 23 rfl)) ?_
  refine J_mono (w_dup_r C (jd jdt_Mo_init_5 24 rfl)) ?_
  refine J_mono (w_iconst_2 C (jd jdt_Mo_init_5 25 rfl)) ?_
  refine J_mono (w_bipush_101 C (jd jdt_Mo_init_5 26 rfl)) ?_
  refine J_bind (fun M68 hM68 => ?_)
  refine J_mono (d_cast C F hM68 rfl (jd jdt_Mo_init_5 27 rfl)) ?_
  refine J_mono (w_dup_r C (jd jdt_Mo_init_5 28 rfl)) ?_
  refine J_mono (w_iconst_3 C (jd jdt_Mo_init_5 29 rfl)) ?_
  refine J_mono (w_bipush_100 C (jd jdt_Mo_init_5 30 rfl)) ?_
  refine J_bind (fun M69 hM69 => ?_)
  refine J_mono (d_cast C F hM69 rfl (jd jdt_Mo_init_5 31 rfl)) ?_
  refine J_mono (w_dup_r C (jd jdt_Mo_init_5 32 rfl)) ?_
  refine J_mono (w_iconst_4 C (jd jdt_Mo_init_5 33 rfl)) ?_
  refine J_mono (w_bipush_115 C (jd jdt_Mo_init_5 34 rfl)) ?_
  refine J_bind (fun M70 hM70 => ?_)
  refine J_mono (d_cast C F hM70 rfl (jd jdt_Mo_init_5 35 rfl)) ?_
  refine J_bind (fun M71 hM71 => ?_)
  refine J_mono (d_put (Cl := "SluicePitModel") (T := jT12) (Y := jY12) (N := 100) C F hM71 (by decide) rfl jin12 jY12_ok jnm12 (by decide) jw_1187 rfl (Or.inr ⟨rfl, hname, rfl⟩) rfl rfl (jd jdt_Mo_init_5 36 rfl)) ?_
  refine J_mono (w_aload_n C (jd jdt_Mo_init_5 37 rfl) rfl) ?_
  refine J_mono (w_iconst_4 C (jd jdt_Mo_init_5 38 rfl)) ?_
  refine J_bind (fun M72 hM72 => ?_)
  refine J_mono (d_newa (at_ := .char) C F hM72 jw_1468 rfl (Or.inr (Or.inr ⟨rfl, rfl, rfl⟩)) (by decide) (by decide) (by decide) (Nat.le_trans (Nat.le_of_ble_eq_true rfl : 13 ≤ 63) hRc) (Nat.le_trans (Nat.le_of_ble_eq_true rfl : 1650 ≤ 19711) hRs) (jd jdt_Mo_init_5 39 rfl)) ?_
  refine J_mono (w_dup_r C (jd jdt_Mo_init_6 0 rfl)) ?_
  refine J_mono (w_iconst_0 C (jd jdt_Mo_init_6 1 rfl)) ?_
  refine J_mono (w_bipush_98 C (jd jdt_Mo_init_6 2 rfl)) ?_
  refine J_bind (fun M73 hM73 => ?_)
  refine J_mono (d_cast C F hM73 rfl (jd jdt_Mo_init_6 3 rfl)) ?_
  refine J_mono (w_dup_r C (jd jdt_Mo_init_6 4 rfl)) ?_
  refine J_mono (w_iconst_1 C (jd jdt_Mo_init_6 5 rfl)) ?_
  refine J_mono (w_bipush_111 C (jd jdt_Mo_init_6 6 rfl)) ?_
  refine J_bind (fun M74 hM74 => ?_)
  refine J_mono (d_cast C F hM74 rfl (jd jdt_Mo_init_6 7 rfl)) ?_
  refine J_mono (w_dup_r C (jd jdt_Mo_init_6 8 rfl)) ?_
  refine J_mono (w_iconst_2 C (jd jdt_Mo_init_6 9 rfl)) ?_
  refine J_mono (w_bipush_97 C (jd jdt_Mo_init_6 10 rfl)) ?_
  refine J_bind (fun M75 hM75 => ?_)
  refine J_mono (d_cast C F hM75 rfl (jd jdt_Mo_init_6 11 rfl)) ?_
  refine J_mono (w_dup_r C (jd jdt_Mo_init_6 12 rfl)) ?_
  refine J_mono (w_iconst_3 C (jd jdt_Mo_init_6 13 rfl)) ?_
  refine J_mono (w_bipush_116 C (jd jdt_Mo_init_6 14 rfl)) ?_
  refine J_bind (fun M76 hM76 => ?_)
  refine J_mono (d_cast C F hM76 rfl (jd jdt_Mo_init_6 15 rfl)) ?_
  refine J_bind (fun M77 hM77 => ?_)
  refine J_mono (d_put (Cl := "SluicePitModel") (T := jT12) (Y := jY12) (N := 100) C F hM77 (by decide) rfl jin12 jY12_ok jnm12 (by decide) jw_1188 rfl (Or.inr ⟨rfl, hname, rfl⟩) rfl rfl (jd jdt_Mo_init_6 16 rfl)) ?_
  refine J_mono (w_aload_n C (jd jdt_Mo_init_6 17 rfl) rfl) ?_
  refine J_mono (w_iconst_5 C (jd jdt_Mo_init_6 18 rfl)) ?_
  refine J_bind (fun M78 hM78 => ?_)
  refine J_mono (d_newa (at_ := .char) C F hM78 jw_1468 rfl (Or.inr (Or.inr ⟨rfl, rfl, rfl⟩)) (by decide) (by decide) (by decide) (Nat.le_trans (Nat.le_of_ble_eq_true rfl : 14 ≤ 63) hRc) (Nat.le_trans (Nat.le_of_ble_eq_true rfl : 1655 ≤ 19711) hRs) (jd jdt_Mo_init_6 19 rfl)) ?_
  refine J_mono (w_dup_r C (jd jdt_Mo_init_6 20 rfl)) ?_
  refine J_mono (w_iconst_0 C (jd jdt_Mo_init_6 21 rfl)) ?_
  refine J_mono (w_bipush_100 C (jd jdt_Mo_init_6 22 rfl)) ?_
  refine J_bind (fun M79 hM79 => ?_)
  refine J_mono (d_cast C F hM79 rfl (jd jdt_Mo_init_6 23 rfl)) ?_
  refine J_mono (w_dup_r C (jd jdt_Mo_init_6 24 rfl)) ?_
  refine J_mono (w_iconst_1 C (jd jdt_Mo_init_6 25 rfl)) ?_
  refine J_mono (w_bipush_114 C (jd jdt_Mo_init_6 26 rfl)) ?_
  refine J_bind (fun M80 hM80 => ?_)
  refine J_mono (d_cast C F hM80 rfl (jd jdt_Mo_init_6 27 rfl)) ?_
  refine J_mono (w_dup_r C (jd jdt_Mo_init_6 28 rfl)) ?_
  refine J_mono (w_iconst_2 C (jd jdt_Mo_init_6 29 rfl)) ?_
  refine J_mono (w_bipush_97 C (jd jdt_Mo_init_6 30 rfl)) ?_
  refine J_bind (fun M81 hM81 => ?_)
  refine J_mono (d_cast C F hM81 rfl (jd jdt_Mo_init_6 31 rfl)) ?_
  refine J_mono (w_dup_r C (jd jdt_Mo_init_6 32 rfl)) ?_
  refine J_mono (w_iconst_3 C (jd jdt_Mo_init_6 33 rfl)) ?_
  refine J_mono (w_bipush_102 C (jd jdt_Mo_init_6 34 rfl)) ?_
  refine J_bind (fun M82 hM82 => ?_)
  refine J_mono (d_cast C F hM82 rfl (jd jdt_Mo_init_6 35 rfl)) ?_
  refine J_mono (w_dup_r C (jd jdt_Mo_init_6 36 rfl)) ?_
  refine J_mono (w_iconst_4 C (jd jdt_Mo_init_6 37 rfl)) ?_
  refine J_mono (w_bipush_116 C (jd jdt_Mo_init_6 38 rfl)) ?_
  refine J_bind (fun M83 hM83 => ?_)
  refine J_mono (d_cast C F hM83 rfl (jd jdt_Mo_init_6 39 rfl)) ?_
  refine J_bind (fun M84 hM84 => ?_)
  refine J_mono (d_put (Cl := "SluicePitModel") (T := jT12) (Y := jY12) (N := 100) C F hM84 (by decide) rfl jin12 jY12_ok jnm12 (by decide) jw_1189 rfl (Or.inr ⟨rfl, hname, rfl⟩) rfl rfl (jd jdt_Mo_init_7 0 rfl)) ?_
  refine J_mono (w_aload_n C (jd jdt_Mo_init_7 1 rfl) rfl) ?_
  refine J_mono (w_bipush_6 C (jd jdt_Mo_init_7 2 rfl)) ?_
  refine J_bind (fun M85 hM85 => ?_)
  refine J_mono (d_newa (at_ := .char) C F hM85 jw_1468 rfl (Or.inr (Or.inr ⟨rfl, rfl, rfl⟩)) (by decide) (by decide) (by decide) (Nat.le_trans (Nat.le_of_ble_eq_true rfl : 15 ≤ 63) hRc) (Nat.le_trans (Nat.le_of_ble_eq_true rfl : 1661 ≤ 19711) hRs) (jd jdt_Mo_init_7 3 rfl)) ?_
  refine J_mono (w_dup_r C (jd jdt_Mo_init_7 4 rfl)) ?_
  refine J_mono (w_iconst_0 C (jd jdt_Mo_init_7 5 rfl)) ?_
  refine J_mono (w_bipush_99 C (jd jdt_Mo_init_7 6 rfl)) ?_
  refine J_bind (fun M86 hM86 => ?_)
  refine J_mono (d_cast C F hM86 rfl (jd jdt_Mo_init_7 7 rfl)) ?_
  refine J_mono (w_dup_r C (jd jdt_Mo_init_7 8 rfl)) ?_
  refine J_mono (w_iconst_1 C (jd jdt_Mo_init_7 9 rfl)) ?_
  refine J_mono (w_bipush_108 C (jd jdt_Mo_init_7 10 rfl)) ?_
  refine J_bind (fun M87 hM87 => ?_)
  refine J_mono (d_cast C F hM87 rfl (jd jdt_Mo_init_7 11 rfl)) ?_
  refine J_mono (w_dup_r C (jd jdt_Mo_init_7 12 rfl)) ?_
  refine J_mono (w_iconst_2 C (jd jdt_Mo_init_7 13 rfl)) ?_
  refine J_mono (w_bipush_97 C (jd jdt_Mo_init_7 14 rfl)) ?_
  refine J_bind (fun M88 hM88 => ?_)
  refine J_mono (d_cast C F hM88 rfl (jd jdt_Mo_init_7 15 rfl)) ?_
  refine J_mono (w_dup_r C (jd jdt_Mo_init_7 16 rfl)) ?_
  refine J_mono (w_iconst_3 C (jd jdt_Mo_init_7 17 rfl)) ?_
  refine J_mono (w_bipush_113 C (jd jdt_Mo_init_7 18 rfl)) ?_
  refine J_bind (fun M89 hM89 => ?_)
  refine J_mono (d_cast C F hM89 rfl (jd jdt_Mo_init_7 19 rfl)) ?_
  refine J_mono (w_dup_r C (jd jdt_Mo_init_7 20 rfl)) ?_
  refine J_mono (w_iconst_4 C (jd jdt_Mo_init_7 21 rfl)) ?_
  refine J_mono (w_bipush_117 C (jd jdt_Mo_init_7 22 rfl)) ?_
  refine J_bind (fun M90 hM90 => ?_)
  refine J_mono (d_cast C F hM90 rfl (jd jdt_Mo_init_7 23 rfl)) ?_
  refine J_mono (w_dup_r C (jd jdt_Mo_init_7 24 rfl)) ?_
  refine J_mono (w_iconst_5 C (jd jdt_Mo_init_7 25 rfl)) ?_
  refine J_mono (w_bipush_101 C (jd jdt_Mo_init_7 26 rfl)) ?_
  refine J_bind (fun M91 hM91 => ?_)
  refine J_mono (d_cast C F hM91 rfl (jd jdt_Mo_init_7 27 rfl)) ?_
  refine J_bind (fun M92 hM92 => ?_)
  refine J_mono (d_put (Cl := "SluicePitModel") (T := jT12) (Y := jY12) (N := 100) C F hM92 (by decide) rfl jin12 jY12_ok jnm12 (by decide) jw_1190 rfl (Or.inr ⟨rfl, hname, rfl⟩) rfl rfl (jd jdt_Mo_init_7 28 rfl)) ?_
  refine J_mono (w_aload_n C (jd jdt_Mo_init_7 29 rfl) rfl) ?_
  refine J_mono (w_bipush_6 C (jd jdt_Mo_init_7 30 rfl)) ?_
  refine J_bind (fun M93 hM93 => ?_)
  refine J_mono (d_newa (at_ := .char) C F hM93 jw_1468 rfl (Or.inr (Or.inr ⟨rfl, rfl, rfl⟩)) (by decide) (by decide) (by decide) (Nat.le_trans (Nat.le_of_ble_eq_true rfl : 16 ≤ 63) hRc) (Nat.le_trans (Nat.le_of_ble_eq_true rfl : 1667 ≤ 19711) hRs) (jd jdt_Mo_init_7 31 rfl)) ?_
  refine J_mono (w_dup_r C (jd jdt_Mo_init_7 32 rfl)) ?_
  refine J_mono (w_iconst_0 C (jd jdt_Mo_init_7 33 rfl)) ?_
  refine J_mono (w_bipush_100 C (jd jdt_Mo_init_7 34 rfl)) ?_
  refine J_bind (fun M94 hM94 => ?_)
  refine J_mono (d_cast C F hM94 rfl (jd jdt_Mo_init_7 35 rfl)) ?_
  refine J_mono (w_dup_r C (jd jdt_Mo_init_7 36 rfl)) ?_
  refine J_mono (w_iconst_1 C (jd jdt_Mo_init_7 37 rfl)) ?_
  refine J_mono (w_bipush_114 C (jd jdt_Mo_init_7 38 rfl)) ?_
  refine J_bind (fun M95 hM95 => ?_)
  refine J_mono (d_cast C F hM95 rfl (jd jdt_Mo_init_7 39 rfl)) ?_
  refine J_mono (w_dup_r C (jd jdt_Mo_init_8 0 rfl)) ?_
  refine J_mono (w_iconst_2 C (jd jdt_Mo_init_8 1 rfl)) ?_
  refine J_mono (w_bipush_105 C (jd jdt_Mo_init_8 2 rfl)) ?_
  refine J_bind (fun M96 hM96 => ?_)
  refine J_mono (d_cast C F hM96 rfl (jd jdt_Mo_init_8 3 rfl)) ?_
  refine J_mono (w_dup_r C (jd jdt_Mo_init_8 4 rfl)) ?_
  refine J_mono (w_iconst_3 C (jd jdt_Mo_init_8 5 rfl)) ?_
  refine J_mono (w_bipush_110 C (jd jdt_Mo_init_8 6 rfl)) ?_
  refine J_bind (fun M97 hM97 => ?_)
  refine J_mono (d_cast C F hM97 rfl (jd jdt_Mo_init_8 7 rfl)) ?_
  refine J_mono (w_dup_r C (jd jdt_Mo_init_8 8 rfl)) ?_
  refine J_mono (w_iconst_4 C (jd jdt_Mo_init_8 9 rfl)) ?_
  refine J_mono (w_bipush_107 C (jd jdt_Mo_init_8 10 rfl)) ?_
  refine J_bind (fun M98 hM98 => ?_)
  refine J_mono (d_cast C F hM98 rfl (jd jdt_Mo_init_8 11 rfl)) ?_
  refine J_mono (w_dup_r C (jd jdt_Mo_init_8 12 rfl)) ?_
  refine J_mono (w_iconst_5 C (jd jdt_Mo_init_8 13 rfl)) ?_
  refine J_mono (w_bipush_115 C (jd jdt_Mo_init_8 14 rfl)) ?_
  refine J_bind (fun M99 hM99 => ?_)
  refine J_mono (d_cast C F hM99 rfl (jd jdt_Mo_init_8 15 rfl)) ?_
  refine J_bind (fun M100 hM100 => ?_)
  refine J_mono (d_put (Cl := "SluicePitModel") (T := jT12) (Y := jY12) (N := 100) C F hM100 (by decide) rfl jin12 jY12_ok jnm12 (by decide) jw_1191 rfl (Or.inr ⟨rfl, hname, rfl⟩) rfl rfl (jd jdt_Mo_init_8 16 rfl)) ?_
  refine J_mono (w_aload_n C (jd jdt_Mo_init_8 17 rfl) rfl) ?_
  refine J_mono (w_iconst_4 C (jd jdt_Mo_init_8 18 rfl)) ?_
  refine J_bind (fun M101 hM101 => ?_)
  refine J_mono (d_newa (at_ := .char) C F hM101 jw_1468 rfl (Or.inr (Or.inr ⟨rfl, rfl, rfl⟩)) (by decide) (by decide) (by decide) (Nat.le_trans (Nat.le_of_ble_eq_true rfl : 17 ≤ 63) hRc) (Nat.le_trans (Nat.le_of_ble_eq_true rfl : 1671 ≤ 19711) hRs) (jd jdt_Mo_init_8 19 rfl)) ?_
  refine J_mono (w_dup_r C (jd jdt_Mo_init_8 20 rfl)) ?_
  refine J_mono (w_iconst_0 C (jd jdt_Mo_init_8 21 rfl)) ?_
  refine J_mono (w_bipush_98 C (jd jdt_Mo_init_8 22 rfl)) ?_
  refine J_bind (fun M102 hM102 => ?_)
  refine J_mono (d_cast C F hM102 rfl (jd jdt_Mo_init_8 23 rfl)) ?_
  refine J_mono (w_dup_r C (jd jdt_Mo_init_8 24 rfl)) ?_
  refine J_mono (w_iconst_1 C (jd jdt_Mo_init_8 25 rfl)) ?_
  refine J_mono (w_bipush_97 C (jd jdt_Mo_init_8 26 rfl)) ?_
  refine J_bind (fun M103 hM103 => ?_)
  refine J_mono (d_cast C F hM103 rfl (jd jdt_Mo_init_8 27 rfl)) ?_
  refine J_mono (w_dup_r C (jd jdt_Mo_init_8 28 rfl)) ?_
  refine J_mono (w_iconst_2 C (jd jdt_Mo_init_8 29 rfl)) ?_
  refine J_mono (w_bipush_110 C (jd jdt_Mo_init_8 30 rfl)) ?_
  refine J_bind (fun M104 hM104 => ?_)
  refine J_mono (d_cast C F hM104 rfl (jd jdt_Mo_init_8 31 rfl)) ?_
  refine J_mono (w_dup_r C (jd jdt_Mo_init_8 32 rfl)) ?_
  refine J_mono (w_iconst_3 C (jd jdt_Mo_init_8 33 rfl)) ?_
  refine J_mono (w_bipush_107 C (jd jdt_Mo_init_8 34 rfl)) ?_
  refine J_bind (fun M105 hM105 => ?_)
  refine J_mono (d_cast C F hM105 rfl (jd jdt_Mo_init_8 35 rfl)) ?_
  refine J_bind (fun M106 hM106 => ?_)
  refine J_mono (d_put (Cl := "SluicePitModel") (T := jT12) (Y := jY12) (N := 100) C F hM106 (by decide) rfl jin12 jY12_ok jnm12 (by decide) jw_1192 rfl (Or.inr ⟨rfl, hname, rfl⟩) rfl rfl (jd jdt_Mo_init_8 36 rfl)) ?_
  refine J_mono (w_aload_n C (jd jdt_Mo_init_8 37 rfl) rfl) ?_
  refine J_mono (w_iconst_5 C (jd jdt_Mo_init_8 38 rfl)) ?_
  refine J_bind (fun M107 hM107 => ?_)
  refine J_mono (d_newa (at_ := .char) C F hM107 jw_1468 rfl (Or.inr (Or.inr ⟨rfl, rfl, rfl⟩)) (by decide) (by decide) (by decide) (Nat.le_trans (Nat.le_of_ble_eq_true rfl : 18 ≤ 63) hRc) (Nat.le_trans (Nat.le_of_ble_eq_true rfl : 1676 ≤ 19711) hRs) (jd jdt_Mo_init_8 39 rfl)) ?_
  refine J_mono (w_dup_r C (jd jdt_Mo_init_9 0 rfl)) ?_
  refine J_mono (w_iconst_0 C (jd jdt_Mo_init_9 1 rfl)) ?_
  refine J_mono (w_bipush_116 C (jd jdt_Mo_init_9 2 rfl)) ?_
  refine J_bind (fun M108 hM108 => ?_)
  refine J_mono (d_cast C F hM108 rfl (jd jdt_Mo_init_9 3 rfl)) ?_
  refine J_mono (w_dup_r C (jd jdt_Mo_init_9 4 rfl)) ?_
  refine J_mono (w_iconst_1 C (jd jdt_Mo_init_9 5 rfl)) ?_
  refine J_mono (w_bipush_105 C (jd jdt_Mo_init_9 6 rfl)) ?_
  refine J_bind (fun M109 hM109 => ?_)
  refine J_mono (d_cast C F hM109 rfl (jd jdt_Mo_init_9 7 rfl)) ?_
  refine J_mono (w_dup_r C (jd jdt_Mo_init_9 8 rfl)) ?_
  refine J_mono (w_iconst_2 C (jd jdt_Mo_init_9 9 rfl)) ?_
  refine J_mono (w_bipush_109 C (jd jdt_Mo_init_9 10 rfl)) ?_
  refine J_bind (fun M110 hM110 => ?_)
  refine J_mono (d_cast C F hM110 rfl (jd jdt_Mo_init_9 11 rfl)) ?_
  refine J_mono (w_dup_r C (jd jdt_Mo_init_9 12 rfl)) ?_
  refine J_mono (w_iconst_3 C (jd jdt_Mo_init_9 13 rfl)) ?_
  refine J_mono (w_bipush_101 C (jd jdt_Mo_init_9 14 rfl)) ?_
  refine J_bind (fun M111 hM111 => ?_)
  refine J_mono (d_cast C F hM111 rfl (jd jdt_Mo_init_9 15 rfl)) ?_
  refine J_mono (w_dup_r C (jd jdt_Mo_init_9 16 rfl)) ?_
  refine J_mono (w_iconst_4 C (jd jdt_Mo_init_9 17 rfl)) ?_
  refine J_mono (w_bipush_115 C (jd jdt_Mo_init_9 18 rfl)) ?_
  refine J_bind (fun M112 hM112 => ?_)
  refine J_mono (d_cast C F hM112 rfl (jd jdt_Mo_init_9 19 rfl)) ?_
  refine J_bind (fun M113 hM113 => ?_)
  refine J_mono (d_put (Cl := "SluicePitModel") (T := jT12) (Y := jY12) (N := 100) C F hM113 (by decide) rfl jin12 jY12_ok jnm12 (by decide) jw_1193 rfl (Or.inr ⟨rfl, hname, rfl⟩) rfl rfl (jd jdt_Mo_init_9 20 rfl)) ?_
  refine J_mono (w_aload_n C (jd jdt_Mo_init_9 21 rfl) rfl) ?_
  refine J_mono (w_bipush_8 C (jd jdt_Mo_init_9 22 rfl)) ?_
  refine J_bind (fun M114 hM114 => ?_)
  refine J_mono (d_newa (at_ := .int) C F hM114 jw_45 rfl (Or.inl ⟨rfl, rfl, rfl⟩) (by decide) (by decide) (by decide) (Nat.le_trans (Nat.le_of_ble_eq_true rfl : 19 ≤ 63) hRc) (Nat.le_trans (Nat.le_of_ble_eq_true rfl : 1684 ≤ 19711) hRs) (jd jdt_Mo_init_9 23 rfl)) ?_
  refine J_bind (fun M115 hM115 => ?_)
  refine J_mono (d_put (Cl := "SluicePitModel") (T := jT12) (Y := jY12) (N := 100) C F hM115 (by decide) rfl jin12 jY12_ok jnm12 (by decide) jw_1195 rfl (Or.inr ⟨rfl, hname, rfl⟩) rfl rfl (jd jdt_Mo_init_9 24 rfl)) ?_
  refine J_mono (w_aload_n C (jd jdt_Mo_init_9 25 rfl) rfl) ?_
  refine J_mono (w_bipush_48 C (jd jdt_Mo_init_9 26 rfl)) ?_
  refine J_bind (fun M116 hM116 => ?_)
  refine J_mono (d_newa (at_ := .long) C F hM116 jw_1469 rfl (Or.inr (Or.inl ⟨rfl, rfl, rfl⟩)) (by decide) (by decide) (by decide) (Nat.le_trans (Nat.le_of_ble_eq_true rfl : 20 ≤ 63) hRc) (Nat.le_trans (Nat.le_of_ble_eq_true rfl : 1732 ≤ 19711) hRs) (jd jdt_Mo_init_9 27 rfl)) ?_
  refine J_bind (fun M117 hM117 => ?_)
  refine J_mono (d_put (Cl := "SluicePitModel") (T := jT12) (Y := jY12) (N := 100) C F hM117 (by decide) rfl jin12 jY12_ok jnm12 (by decide) jw_1196 rfl (Or.inr ⟨rfl, hname, rfl⟩) rfl rfl (jd jdt_Mo_init_9 28 rfl)) ?_
  refine J_mono (w_aload_n C (jd jdt_Mo_init_9 29 rfl) rfl) ?_
  refine J_mono (w_bipush_24 C (jd jdt_Mo_init_9 30 rfl)) ?_
  refine J_bind (fun M118 hM118 => ?_)
  refine J_mono (d_newa (at_ := .int) C F hM118 jw_45 rfl (Or.inl ⟨rfl, rfl, rfl⟩) (by decide) (by decide) (by decide) (Nat.le_trans (Nat.le_of_ble_eq_true rfl : 21 ≤ 63) hRc) (Nat.le_trans (Nat.le_of_ble_eq_true rfl : 1756 ≤ 19711) hRs) (jd jdt_Mo_init_9 31 rfl)) ?_
  refine J_bind (fun M119 hM119 => ?_)
  refine J_mono (d_put (Cl := "SluicePitModel") (T := jT12) (Y := jY12) (N := 100) C F hM119 (by decide) rfl jin12 jY12_ok jnm12 (by decide) jw_1199 rfl (Or.inr ⟨rfl, hname, rfl⟩) rfl rfl (jd jdt_Mo_init_9 32 rfl)) ?_
  refine J_mono (w_aload_n C (jd jdt_Mo_init_9 33 rfl) rfl) ?_
  refine J_mono (w_bipush_24 C (jd jdt_Mo_init_9 34 rfl)) ?_
  refine J_bind (fun M120 hM120 => ?_)
  refine J_mono (d_newa (at_ := .int) C F hM120 jw_45 rfl (Or.inl ⟨rfl, rfl, rfl⟩) (by decide) (by decide) (by decide) (Nat.le_trans (Nat.le_of_ble_eq_true rfl : 22 ≤ 63) hRc) (Nat.le_trans (Nat.le_of_ble_eq_true rfl : 1780 ≤ 19711) hRs) (jd jdt_Mo_init_9 35 rfl)) ?_
  refine J_bind (fun M121 hM121 => ?_)
  refine J_mono (d_put (Cl := "SluicePitModel") (T := jT12) (Y := jY12) (N := 100) C F hM121 (by decide) rfl jin12 jY12_ok jnm12 (by decide) jw_1200 rfl (Or.inr ⟨rfl, hname, rfl⟩) rfl rfl (jd jdt_Mo_init_9 36 rfl)) ?_
  refine J_mono (w_aload_n C (jd jdt_Mo_init_9 37 rfl) rfl) ?_
  refine J_mono (w_bipush_24 C (jd jdt_Mo_init_9 38 rfl)) ?_
  refine J_bind (fun M122 hM122 => ?_)
  refine J_mono (d_newa (at_ := .int) C F hM122 jw_45 rfl (Or.inl ⟨rfl, rfl, rfl⟩) (by decide) (by decide) (by decide) (Nat.le_trans (Nat.le_of_ble_eq_true rfl : 23 ≤ 63) hRc) (Nat.le_trans (Nat.le_of_ble_eq_true rfl : 1804 ≤ 19711) hRs) (jd jdt_Mo_init_9 39 rfl)) ?_
  refine J_bind (fun M123 hM123 => ?_)
  refine J_mono (d_put (Cl := "SluicePitModel") (T := jT12) (Y := jY12) (N := 100) C F hM123 (by decide) rfl jin12 jY12_ok jnm12 (by decide) jw_1201 rfl (Or.inr ⟨rfl, hname, rfl⟩) rfl rfl (jd jdt_Mo_init_10 0 rfl)) ?_
  refine J_mono (w_aload_n C (jd jdt_Mo_init_10 1 rfl) rfl) ?_
  refine J_mono (w_bipush_16 C (jd jdt_Mo_init_10 2 rfl)) ?_
  refine J_bind (fun M124 hM124 => ?_)
  refine J_mono (d_newa (at_ := .int) C F hM124 jw_45 rfl (Or.inl ⟨rfl, rfl, rfl⟩) (by decide) (by decide) (by decide) (Nat.le_trans (Nat.le_of_ble_eq_true rfl : 24 ≤ 63) hRc) (Nat.le_trans (Nat.le_of_ble_eq_true rfl : 1820 ≤ 19711) hRs) (jd jdt_Mo_init_10 3 rfl)) ?_
  refine J_bind (fun M125 hM125 => ?_)
  refine J_mono (d_put (Cl := "SluicePitModel") (T := jT12) (Y := jY12) (N := 100) C F hM125 (by decide) rfl jin12 jY12_ok jnm12 (by decide) jw_1202 rfl (Or.inr ⟨rfl, hname, rfl⟩) rfl rfl (jd jdt_Mo_init_10 4 rfl)) ?_
  refine J_mono (w_aload_n C (jd jdt_Mo_init_10 5 rfl) rfl) ?_
  refine J_mono (w_sipush_976 C (jd jdt_Mo_init_10 6 rfl)) ?_
  refine J_bind (fun M126 hM126 => ?_)
  refine J_mono (d_newa (at_ := .int) C F hM126 jw_45 rfl (Or.inl ⟨rfl, rfl, rfl⟩) (by decide) (by decide) (by decide) (Nat.le_trans (Nat.le_of_ble_eq_true rfl : 25 ≤ 63) hRc) (Nat.le_trans (Nat.le_of_ble_eq_true rfl : 2796 ≤ 19711) hRs) (jd jdt_Mo_init_10 7 rfl)) ?_
  refine J_bind (fun M127 hM127 => ?_)
  refine J_mono (d_put (Cl := "SluicePitModel") (T := jT12) (Y := jY12) (N := 100) C F hM127 (by decide) rfl jin12 jY12_ok jnm12 (by decide) jw_1203 rfl (Or.inr ⟨rfl, hname, rfl⟩) rfl rfl (jd jdt_Mo_init_10 8 rfl)) ?_
  refine J_mono (w_aload_n C (jd jdt_Mo_init_10 9 rfl) rfl) ?_
  refine J_mono (w_bipush_16 C (jd jdt_Mo_init_10 10 rfl)) ?_
  refine J_bind (fun M128 hM128 => ?_)
  refine J_mono (d_newa (at_ := .int) C F hM128 jw_45 rfl (Or.inl ⟨rfl, rfl, rfl⟩) (by decide) (by decide) (by decide) (Nat.le_trans (Nat.le_of_ble_eq_true rfl : 26 ≤ 63) hRc) (Nat.le_trans (Nat.le_of_ble_eq_true rfl : 2812 ≤ 19711) hRs) (jd jdt_Mo_init_10 11 rfl)) ?_
  refine J_bind (fun M129 hM129 => ?_)
  refine J_mono (d_put (Cl := "SluicePitModel") (T := jT12) (Y := jY12) (N := 100) C F hM129 (by decide) rfl jin12 jY12_ok jnm12 (by decide) jw_1204 rfl (Or.inr ⟨rfl, hname, rfl⟩) rfl rfl (jd jdt_Mo_init_10 12 rfl)) ?_
  refine J_mono (w_aload_n C (jd jdt_Mo_init_10 13 rfl) rfl) ?_
  refine J_mono (w_bipush_16 C (jd jdt_Mo_init_10 14 rfl)) ?_
  refine J_bind (fun M130 hM130 => ?_)
  refine J_mono (d_newa (at_ := .int) C F hM130 jw_45 rfl (Or.inl ⟨rfl, rfl, rfl⟩) (by decide) (by decide) (by decide) (Nat.le_trans (Nat.le_of_ble_eq_true rfl : 27 ≤ 63) hRc) (Nat.le_trans (Nat.le_of_ble_eq_true rfl : 2828 ≤ 19711) hRs) (jd jdt_Mo_init_10 15 rfl)) ?_
  refine J_bind (fun M131 hM131 => ?_)
  refine J_mono (d_put (Cl := "SluicePitModel") (T := jT12) (Y := jY12) (N := 100) C F hM131 (by decide) rfl jin12 jY12_ok jnm12 (by decide) jw_1205 rfl (Or.inr ⟨rfl, hname, rfl⟩) rfl rfl (jd jdt_Mo_init_10 16 rfl)) ?_
  refine J_mono (w_aload_n C (jd jdt_Mo_init_10 17 rfl) rfl) ?_
  refine J_mono (w_bipush_16 C (jd jdt_Mo_init_10 18 rfl)) ?_
  refine J_bind (fun M132 hM132 => ?_)
  refine J_mono (d_newa (at_ := .int) C F hM132 jw_45 rfl (Or.inl ⟨rfl, rfl, rfl⟩) (by decide) (by decide) (by decide) (Nat.le_trans (Nat.le_of_ble_eq_true rfl : 28 ≤ 63) hRc) (Nat.le_trans (Nat.le_of_ble_eq_true rfl : 2844 ≤ 19711) hRs) (jd jdt_Mo_init_10 19 rfl)) ?_
  refine J_bind (fun M133 hM133 => ?_)
  refine J_mono (d_put (Cl := "SluicePitModel") (T := jT12) (Y := jY12) (N := 100) C F hM133 (by decide) rfl jin12 jY12_ok jnm12 (by decide) jw_1206 rfl (Or.inr ⟨rfl, hname, rfl⟩) rfl rfl (jd jdt_Mo_init_10 20 rfl)) ?_
  refine J_mono (w_aload_n C (jd jdt_Mo_init_10 21 rfl) rfl) ?_
  refine J_mono (w_iconst_2 C (jd jdt_Mo_init_10 22 rfl)) ?_
  refine J_bind (fun M134 hM134 => ?_)
  refine J_mono (d_newa (at_ := .int) C F hM134 jw_45 rfl (Or.inl ⟨rfl, rfl, rfl⟩) (by decide) (by decide) (by decide) (Nat.le_trans (Nat.le_of_ble_eq_true rfl : 29 ≤ 63) hRc) (Nat.le_trans (Nat.le_of_ble_eq_true rfl : 2846 ≤ 19711) hRs) (jd jdt_Mo_init_10 23 rfl)) ?_
  refine J_bind (fun M135 hM135 => ?_)
  refine J_mono (d_put (Cl := "SluicePitModel") (T := jT12) (Y := jY12) (N := 100) C F hM135 (by decide) rfl jin12 jY12_ok jnm12 (by decide) jw_1207 rfl (Or.inr ⟨rfl, hname, rfl⟩) rfl rfl (jd jdt_Mo_init_10 24 rfl)) ?_
  refine J_mono (w_aload_n C (jd jdt_Mo_init_10 25 rfl) rfl) ?_
  refine J_mono (w_iconst_2 C (jd jdt_Mo_init_10 26 rfl)) ?_
  refine J_bind (fun M136 hM136 => ?_)
  refine J_mono (d_newa (at_ := .int) C F hM136 jw_45 rfl (Or.inl ⟨rfl, rfl, rfl⟩) (by decide) (by decide) (by decide) (Nat.le_trans (Nat.le_of_ble_eq_true rfl : 30 ≤ 63) hRc) (Nat.le_trans (Nat.le_of_ble_eq_true rfl : 2848 ≤ 19711) hRs) (jd jdt_Mo_init_10 27 rfl)) ?_
  refine J_bind (fun M137 hM137 => ?_)
  refine J_mono (d_put (Cl := "SluicePitModel") (T := jT12) (Y := jY12) (N := 100) C F hM137 (by decide) rfl jin12 jY12_ok jnm12 (by decide) jw_1208 rfl (Or.inr ⟨rfl, hname, rfl⟩) rfl rfl (jd jdt_Mo_init_10 28 rfl)) ?_
  refine J_mono (w_aload_n C (jd jdt_Mo_init_10 29 rfl) rfl) ?_
  refine J_mono (w_bipush_60 C (jd jdt_Mo_init_10 30 rfl)) ?_
  refine J_bind (fun M138 hM138 => ?_)
  refine J_mono (d_newa (at_ := .int) C F hM138 jw_45 rfl (Or.inl ⟨rfl, rfl, rfl⟩) (by decide) (by decide) (by decide) (Nat.le_trans (Nat.le_of_ble_eq_true rfl : 31 ≤ 63) hRc) (Nat.le_trans (Nat.le_of_ble_eq_true rfl : 2908 ≤ 19711) hRs) (jd jdt_Mo_init_10 31 rfl)) ?_
  refine J_bind (fun M139 hM139 => ?_)
  refine J_mono (d_put (Cl := "SluicePitModel") (T := jT12) (Y := jY12) (N := 100) C F hM139 (by decide) rfl jin12 jY12_ok jnm12 (by decide) jw_1210 rfl (Or.inr ⟨rfl, hname, rfl⟩) rfl rfl (jd jdt_Mo_init_10 32 rfl)) ?_
  refine J_mono (w_aload_n C (jd jdt_Mo_init_10 33 rfl) rfl) ?_
  refine J_mono (w_iconst_5 C (jd jdt_Mo_init_10 34 rfl)) ?_
  refine J_bind (fun M140 hM140 => ?_)
  refine J_mono (d_newa (at_ := .int) C F hM140 jw_45 rfl (Or.inl ⟨rfl, rfl, rfl⟩) (by decide) (by decide) (by decide) (Nat.le_trans (Nat.le_of_ble_eq_true rfl : 32 ≤ 63) hRc) (Nat.le_trans (Nat.le_of_ble_eq_true rfl : 2913 ≤ 19711) hRs) (jd jdt_Mo_init_10 35 rfl)) ?_
  refine J_bind (fun M141 hM141 => ?_)
  refine J_mono (d_put (Cl := "SluicePitModel") (T := jT12) (Y := jY12) (N := 100) C F hM141 (by decide) rfl jin12 jY12_ok jnm12 (by decide) jw_1212 rfl (Or.inr ⟨rfl, hname, rfl⟩) rfl rfl (jd jdt_Mo_init_10 36 rfl)) ?_
  refine J_mono (w_aload_n C (jd jdt_Mo_init_10 37 rfl) rfl) ?_
  refine J_mono (w_iconst_m1 C (jd jdt_Mo_init_10 38 rfl)) ?_
  refine J_bind (fun M142 hM142 => ?_)
  refine J_mono (d_put (Cl := "SluicePitModel") (T := jT12) (Y := jY12) (N := 100) C F hM142 (by decide) rfl jin12 jY12_ok jnm12 (by decide) jw_1215 rfl (Or.inl rfl) rfl rfl (jd jdt_Mo_init_10 39 rfl)) ?_
  refine J_mono (w_aload_n C (jd jdt_Mo_init_11 0 rfl) rfl) ?_
  refine J_mono (w_iconst_m1 C (jd jdt_Mo_init_11 1 rfl)) ?_
  refine J_bind (fun M143 hM143 => ?_)
  refine J_mono (d_put (Cl := "SluicePitModel") (T := jT12) (Y := jY12) (N := 100) C F hM143 (by decide) rfl jin12 jY12_ok jnm12 (by decide) jw_1217 rfl (Or.inl rfl) rfl rfl (jd jdt_Mo_init_11 2 rfl)) ?_
  refine J_mono (w_aload_n C (jd jdt_Mo_init_11 3 rfl) rfl) ?_
  refine J_mono (w_bipush_12 C (jd jdt_Mo_init_11 4 rfl)) ?_
  refine J_bind (fun M144 hM144 => ?_)
  refine J_mono (d_newa (at_ := .int) C F hM144 jw_45 rfl (Or.inl ⟨rfl, rfl, rfl⟩) (by decide) (by decide) (by decide) (Nat.le_trans (Nat.le_of_ble_eq_true rfl : 33 ≤ 63) hRc) (Nat.le_trans (Nat.le_of_ble_eq_true rfl : 2925 ≤ 19711) hRs) (jd jdt_Mo_init_11 5 rfl)) ?_
  refine J_bind (fun M145 hM145 => ?_)
  refine J_mono (d_put (Cl := "SluicePitModel") (T := jT12) (Y := jY12) (N := 100) C F hM145 (by decide) rfl jin12 jY12_ok jnm12 (by decide) jw_1219 rfl (Or.inr ⟨rfl, hname, rfl⟩) rfl rfl (jd jdt_Mo_init_11 6 rfl)) ?_
  refine J_mono (w_aload_n C (jd jdt_Mo_init_11 7 rfl) rfl) ?_
  refine J_mono (w_iconst_4 C (jd jdt_Mo_init_11 8 rfl)) ?_
  refine J_bind (fun M146 hM146 => ?_)
  refine J_mono (d_newa (at_ := .int) C F hM146 jw_45 rfl (Or.inl ⟨rfl, rfl, rfl⟩) (by decide) (by decide) (by decide) (Nat.le_trans (Nat.le_of_ble_eq_true rfl : 34 ≤ 63) hRc) (Nat.le_trans (Nat.le_of_ble_eq_true rfl : 2929 ≤ 19711) hRs) (jd jdt_Mo_init_11 9 rfl)) ?_
  refine J_bind (fun M147 hM147 => ?_)
  refine J_mono (d_put (Cl := "SluicePitModel") (T := jT12) (Y := jY12) (N := 100) C F hM147 (by decide) rfl jin12 jY12_ok jnm12 (by decide) jw_1220 rfl (Or.inr ⟨rfl, hname, rfl⟩) rfl rfl (jd jdt_Mo_init_11 10 rfl)) ?_
  refine J_mono (w_aload_n C (jd jdt_Mo_init_11 11 rfl) rfl) ?_
  refine J_mono (w_sipush_732 C (jd jdt_Mo_init_11 12 rfl)) ?_
  refine J_bind (fun M148 hM148 => ?_)
  refine J_mono (d_newa (at_ := .int) C F hM148 jw_45 rfl (Or.inl ⟨rfl, rfl, rfl⟩) (by decide) (by decide) (by decide) (Nat.le_trans (Nat.le_of_ble_eq_true rfl : 35 ≤ 63) hRc) (Nat.le_trans (Nat.le_of_ble_eq_true rfl : 3661 ≤ 19711) hRs) (jd jdt_Mo_init_11 13 rfl)) ?_
  refine J_bind (fun M149 hM149 => ?_)
  refine J_mono (d_put (Cl := "SluicePitModel") (T := jT12) (Y := jY12) (N := 100) C F hM149 (by decide) rfl jin12 jY12_ok jnm12 (by decide) jw_1226 rfl (Or.inr ⟨rfl, hname, rfl⟩) rfl rfl (jd jdt_Mo_init_11 14 rfl)) ?_
  refine J_mono (w_aload_n C (jd jdt_Mo_init_11 15 rfl) rfl) ?_
  refine J_mono (w_sipush_244 C (jd jdt_Mo_init_11 16 rfl)) ?_
  refine J_bind (fun M150 hM150 => ?_)
  refine J_mono (d_newa (at_ := .int) C F hM150 jw_45 rfl (Or.inl ⟨rfl, rfl, rfl⟩) (by decide) (by decide) (by decide) (Nat.le_trans (Nat.le_of_ble_eq_true rfl : 36 ≤ 63) hRc) (Nat.le_trans (Nat.le_of_ble_eq_true rfl : 3905 ≤ 19711) hRs) (jd jdt_Mo_init_11 17 rfl)) ?_
  refine J_bind (fun M151 hM151 => ?_)
  refine J_mono (d_put (Cl := "SluicePitModel") (T := jT12) (Y := jY12) (N := 100) C F hM151 (by decide) rfl jin12 jY12_ok jnm12 (by decide) jw_1227 rfl (Or.inr ⟨rfl, hname, rfl⟩) rfl rfl (jd jdt_Mo_init_11 18 rfl)) ?_
  refine J_mono (w_aload_n C (jd jdt_Mo_init_11 19 rfl) rfl) ?_
  refine J_mono (w_sipush_366 C (jd jdt_Mo_init_11 20 rfl)) ?_
  refine J_bind (fun M152 hM152 => ?_)
  refine J_mono (d_newa (at_ := .int) C F hM152 jw_45 rfl (Or.inl ⟨rfl, rfl, rfl⟩) (by decide) (by decide) (by decide) (Nat.le_trans (Nat.le_of_ble_eq_true rfl : 37 ≤ 63) hRc) (Nat.le_trans (Nat.le_of_ble_eq_true rfl : 4271 ≤ 19711) hRs) (jd jdt_Mo_init_11 21 rfl)) ?_
  refine J_bind (fun M153 hM153 => ?_)
  refine J_mono (d_put (Cl := "SluicePitModel") (T := jT12) (Y := jY12) (N := 100) C F hM153 (by decide) rfl jin12 jY12_ok jnm12 (by decide) jw_1228 rfl (Or.inr ⟨rfl, hname, rfl⟩) rfl rfl (jd jdt_Mo_init_11 22 rfl)) ?_
  refine J_mono (w_aload_n C (jd jdt_Mo_init_11 23 rfl) rfl) ?_
  refine J_mono (w_sipush_9760 C (jd jdt_Mo_init_11 24 rfl)) ?_
  refine J_bind (fun M154 hM154 => ?_)
  refine J_mono (d_newa (at_ := .int) C F hM154 jw_45 rfl (Or.inl ⟨rfl, rfl, rfl⟩) (by decide) (by decide) (by decide) (Nat.le_trans (Nat.le_of_ble_eq_true rfl : 38 ≤ 63) hRc) (Nat.le_trans (Nat.le_of_ble_eq_true rfl : 14031 ≤ 19711) hRs) (jd jdt_Mo_init_11 25 rfl)) ?_
  refine J_bind (fun M155 hM155 => ?_)
  refine J_mono (d_put (Cl := "SluicePitModel") (T := jT12) (Y := jY12) (N := 100) C F hM155 (by decide) rfl jin12 jY12_ok jnm12 (by decide) jw_1229 rfl (Or.inr ⟨rfl, hname, rfl⟩) rfl rfl (jd jdt_Mo_init_11 26 rfl)) ?_
  refine J_mono (w_aload_n C (jd jdt_Mo_init_11 27 rfl) rfl) ?_
  refine J_mono (w_bipush_12 C (jd jdt_Mo_init_11 28 rfl)) ?_
  refine J_bind (fun M156 hM156 => ?_)
  refine J_mono (d_newa (at_ := .int) C F hM156 jw_45 rfl (Or.inl ⟨rfl, rfl, rfl⟩) (by decide) (by decide) (by decide) (Nat.le_trans (Nat.le_of_ble_eq_true rfl : 39 ≤ 63) hRc) (Nat.le_trans (Nat.le_of_ble_eq_true rfl : 14043 ≤ 19711) hRs) (jd jdt_Mo_init_11 29 rfl)) ?_
  refine J_bind (fun M157 hM157 => ?_)
  refine J_mono (d_put (Cl := "SluicePitModel") (T := jT12) (Y := jY12) (N := 100) C F hM157 (by decide) rfl jin12 jY12_ok jnm12 (by decide) jw_1233 rfl (Or.inr ⟨rfl, hname, rfl⟩) rfl rfl (jd jdt_Mo_init_11 30 rfl)) ?_
  refine J_mono (w_aload_n C (jd jdt_Mo_init_11 31 rfl) rfl) ?_
  refine J_mono (w_lconst_1 C (jd jdt_Mo_init_11 32 rfl)) ?_
  refine J_bind (fun M158 hM158 => ?_)
  refine J_mono (d_put (Cl := "SluicePitModel") (T := jT12) (Y := jY12) (N := 100) C F hM158 (by decide) rfl jin12 jY12_ok jnm12 (by decide) jw_1234 rfl (Or.inl rfl) rfl rfl (jd jdt_Mo_init_11 33 rfl)) ?_
  refine J_mono (w_aload_n C (jd jdt_Mo_init_11 34 rfl) rfl) ?_
  refine J_mono (w_iconst_5 C (jd jdt_Mo_init_11 35 rfl)) ?_
  refine J_bind (fun M159 hM159 => ?_)
  refine J_mono (d_newa (at_ := .char) C F hM159 jw_1468 rfl (Or.inr (Or.inr ⟨rfl, rfl, rfl⟩)) (by decide) (by decide) (by decide) (Nat.le_trans (Nat.le_of_ble_eq_true rfl : 40 ≤ 63) hRc) (Nat.le_trans (Nat.le_of_ble_eq_true rfl : 14048 ≤ 19711) hRs) (jd jdt_Mo_init_11 36 rfl)) ?_
  refine J_mono (w_dup_r C (jd jdt_Mo_init_11 37 rfl)) ?_
  refine J_mono (w_iconst_0 C (jd jdt_Mo_init_11 38 rfl)) ?_
  refine J_mono (w_bipush_102 C (jd jdt_Mo_init_11 39 rfl)) ?_
  refine J_bind (fun M160 hM160 => ?_)
  refine J_mono (d_cast C F hM160 rfl (jd jdt_Mo_init_12 0 rfl)) ?_
  refine J_mono (w_dup_r C (jd jdt_Mo_init_12 1 rfl)) ?_
  refine J_mono (w_iconst_1 C (jd jdt_Mo_init_12 2 rfl)) ?_
  refine J_mono (w_bipush_105 C (jd jdt_Mo_init_12 3 rfl)) ?_
  refine J_bind (fun M161 hM161 => ?_)
  refine J_mono (d_cast C F hM161 rfl (jd jdt_Mo_init_12 4 rfl)) ?_
  refine J_mono (w_dup_r C (jd jdt_Mo_init_12 5 rfl)) ?_
  refine J_mono (w_iconst_2 C (jd jdt_Mo_init_12 6 rfl)) ?_
  refine J_mono (w_bipush_114 C (jd jdt_Mo_init_12 7 rfl)) ?_
  refine J_bind (fun M162 hM162 => ?_)
  refine J_mono (d_cast C F hM162 rfl (jd jdt_Mo_init_12 8 rfl)) ?_
  refine J_mono (w_dup_r C (jd jdt_Mo_init_12 9 rfl)) ?_
  refine J_mono (w_iconst_3 C (jd jdt_Mo_init_12 10 rfl)) ?_
  refine J_mono (w_bipush_115 C (jd jdt_Mo_init_12 11 rfl)) ?_
  refine J_bind (fun M163 hM163 => ?_)
  refine J_mono (d_cast C F hM163 rfl (jd jdt_Mo_init_12 12 rfl)) ?_
  refine J_mono (w_dup_r C (jd jdt_Mo_init_12 13 rfl)) ?_
  refine J_mono (w_iconst_4 C (jd jdt_Mo_init_12 14 rfl)) ?_
  refine J_mono (w_bipush_116 C (jd jdt_Mo_init_12 15 rfl)) ?_
  refine J_bind (fun M164 hM164 => ?_)
  refine J_mono (d_cast C F hM164 rfl (jd jdt_Mo_init_12 16 rfl)) ?_
  refine J_bind (fun M165 hM165 => ?_)
  refine J_mono (d_put (Cl := "SluicePitModel") (T := jT12) (Y := jY12) (N := 100) C F hM165 (by decide) rfl jin12 jY12_ok jnm12 (by decide) jw_1235 rfl (Or.inr ⟨rfl, hname, rfl⟩) rfl rfl (jd jdt_Mo_init_12 17 rfl)) ?_
  refine J_mono (w_aload_n C (jd jdt_Mo_init_12 18 rfl) rfl) ?_
  refine J_mono (w_iconst_4 C (jd jdt_Mo_init_12 19 rfl)) ?_
  refine J_bind (fun M166 hM166 => ?_)
  refine J_mono (d_newa (at_ := .char) C F hM166 jw_1468 rfl (Or.inr (Or.inr ⟨rfl, rfl, rfl⟩)) (by decide) (by decide) (by decide) (Nat.le_trans (Nat.le_of_ble_eq_true rfl : 41 ≤ 63) hRc) (Nat.le_trans (Nat.le_of_ble_eq_true rfl : 14052 ≤ 19711) hRs) (jd jdt_Mo_init_12 20 rfl)) ?_
  refine J_mono (w_dup_r C (jd jdt_Mo_init_12 21 rfl)) ?_
  refine J_mono (w_iconst_0 C (jd jdt_Mo_init_12 22 rfl)) ?_
  refine J_mono (w_bipush_108 C (jd jdt_Mo_init_12 23 rfl)) ?_
  refine J_bind (fun M167 hM167 => ?_)
  refine J_mono (d_cast C F hM167 rfl (jd jdt_Mo_init_12 24 rfl)) ?_
  refine J_mono (w_dup_r C (jd jdt_Mo_init_12 25 rfl)) ?_
  refine J_mono (w_iconst_1 C (jd jdt_Mo_init_12 26 rfl)) ?_
  refine J_mono (w_bipush_97 C (jd jdt_Mo_init_12 27 rfl)) ?_
  refine J_bind (fun M168 hM168 => ?_)
  refine J_mono (d_cast C F hM168 rfl (jd jdt_Mo_init_12 28 rfl)) ?_
  refine J_mono (w_dup_r C (jd jdt_Mo_init_12 29 rfl)) ?_
  refine J_mono (w_iconst_2 C (jd jdt_Mo_init_12 30 rfl)) ?_
  refine J_mono (w_bipush_115 C (jd jdt_Mo_init_12 31 rfl)) ?_
  refine J_bind (fun M169 hM169 => ?_)
  refine J_mono (d_cast C F hM169 rfl (jd jdt_Mo_init_12 32 rfl)) ?_
  refine J_mono (w_dup_r C (jd jdt_Mo_init_12 33 rfl)) ?_
  refine J_mono (w_iconst_3 C (jd jdt_Mo_init_12 34 rfl)) ?_
  refine J_mono (w_bipush_116 C (jd jdt_Mo_init_12 35 rfl)) ?_
  refine J_bind (fun M170 hM170 => ?_)
  refine J_mono (d_cast C F hM170 rfl (jd jdt_Mo_init_12 36 rfl)) ?_
  refine J_bind (fun M171 hM171 => ?_)
  refine J_mono (d_put (Cl := "SluicePitModel") (T := jT12) (Y := jY12) (N := 100) C F hM171 (by decide) rfl jin12 jY12_ok jnm12 (by decide) jw_1236 rfl (Or.inr ⟨rfl, hname, rfl⟩) rfl rfl (jd jdt_Mo_init_12 37 rfl)) ?_
  refine J_mono (w_aload_n C (jd jdt_Mo_init_12 38 rfl) rfl) ?_
  refine J_mono (w_iconst_5 C (jd jdt_Mo_init_12 39 rfl)) ?_
  refine J_bind (fun M172 hM172 => ?_)
  refine J_mono (d_newa (at_ := .char) C F hM172 jw_1468 rfl (Or.inr (Or.inr ⟨rfl, rfl, rfl⟩)) (by decide) (by decide) (by decide) (Nat.le_trans (Nat.le_of_ble_eq_true rfl : 42 ≤ 63) hRc) (Nat.le_trans (Nat.le_of_ble_eq_true rfl : 14057 ≤ 19711) hRs) (jd jdt_Mo_init_13 0 rfl)) ?_
  refine J_mono (w_dup_r C (jd jdt_Mo_init_13 1 rfl)) ?_
  refine J_mono (w_iconst_0 C (jd jdt_Mo_init_13 2 rfl)) ?_
  refine J_mono (w_bipush_111 C (jd jdt_Mo_init_13 3 rfl)) ?_
  refine J_bind (fun M173 hM173 => ?_)
  refine J_mono (d_cast C F hM173 rfl (jd jdt_Mo_init_13 4 rfl)) ?_
  refine J_mono (w_dup_r C (jd jdt_Mo_init_13 5 rfl)) ?_
  refine J_mono (w_iconst_1 C (jd jdt_Mo_init_13 6 rfl)) ?_
  refine J_mono (w_bipush_102 C (jd jdt_Mo_init_13 7 rfl)) ?_
  refine J_bind (fun M174 hM174 => ?_)
  refine J_mono (d_cast C F hM174 rfl (jd jdt_Mo_init_13 8 rfl)) ?_
  refine J_mono (w_dup_r C (jd jdt_Mo_init_13 9 rfl)) ?_
  refine J_mono (w_iconst_2 C (jd jdt_Mo_init_13 10 rfl)) ?_
  refine J_mono (w_bipush_116 C (jd jdt_Mo_init_13 11 rfl)) ?_
  refine J_bind (fun M175 hM175 => ?_)
  refine J_mono (d_cast C F hM175 rfl (jd jdt_Mo_init_13 12 rfl)) ?_
  refine J_mono (w_dup_r C (jd jdt_Mo_init_13 13 rfl)) ?_
  refine J_mono (w_iconst_3 C (jd jdt_Mo_init_13 14 rfl)) ?_
  refine J_mono (w_bipush_101 C (jd jdt_Mo_init_13 15 rfl)) ?_
  refine J_bind (fun M176 hM176 => ?_)
  refine J_mono (d_cast C F hM176 rfl (jd jdt_Mo_init_13 16 rfl)) ?_
  refine J_mono (w_dup_r C (jd jdt_Mo_init_13 17 rfl)) ?_
  refine J_mono (w_iconst_4 C (jd jdt_Mo_init_13 18 rfl)) ?_
  refine J_mono (w_bipush_110 C (jd jdt_Mo_init_13 19 rfl)) ?_
  refine J_bind (fun M177 hM177 => ?_)
  refine J_mono (d_cast C F hM177 rfl (jd jdt_Mo_init_13 20 rfl)) ?_
  refine J_bind (fun M178 hM178 => ?_)
  refine J_mono (d_put (Cl := "SluicePitModel") (T := jT12) (Y := jY12) (N := 100) C F hM178 (by decide) rfl jin12 jY12_ok jnm12 (by decide) jw_1237 rfl (Or.inr ⟨rfl, hname, rfl⟩) rfl rfl (jd jdt_Mo_init_13 21 rfl)) ?_
  refine J_mono (w_aload_n C (jd jdt_Mo_init_13 22 rfl) rfl) ?_
  refine J_mono (w_iconst_5 C (jd jdt_Mo_init_13 23 rfl)) ?_
  refine J_bind (fun M179 hM179 => ?_)
  refine J_mono (d_newa (at_ := .char) C F hM179 jw_1468 rfl (Or.inr (Or.inr ⟨rfl, rfl, rfl⟩)) (by decide) (by decide) (by decide) (Nat.le_trans (Nat.le_of_ble_eq_true rfl : 43 ≤ 63) hRc) (Nat.le_trans (Nat.le_of_ble_eq_true rfl : 14062 ≤ 19711) hRs) (jd jdt_Mo_init_13 24 rfl)) ?_
  refine J_mono (w_dup_r C (jd jdt_Mo_init_13 25 rfl)) ?_
  refine J_mono (w_iconst_0 C (jd jdt_Mo_init_13 26 rfl)) ?_
  refine J_mono (w_bipush_116 C (jd jdt_Mo_init_13 27 rfl)) ?_
  refine J_bind (fun M180 hM180 => ?_)
  refine J_mono (d_cast C F hM180 rfl (jd jdt_Mo_init_13 28 rfl)) ?_
  refine J_mono (w_dup_r C (jd jdt_Mo_init_13 29 rfl)) ?_
  refine J_mono (w_iconst_1 C (jd jdt_Mo_init_13 30 rfl)) ?_
  refine J_mono (w_bipush_111 C (jd jdt_Mo_init_13 31 rfl)) ?_
  refine J_bind (fun M181 hM181 => ?_)
  refine J_mono (d_cast C F hM181 rfl (jd jdt_Mo_init_13 32 rfl)) ?_
  refine J_mono (w_dup_r C (jd jdt_Mo_init_13 33 rfl)) ?_
  refine J_mono (w_iconst_2 C (jd jdt_Mo_init_13 34 rfl)) ?_
  refine J_mono (w_bipush_116 C (jd jdt_Mo_init_13 35 rfl)) ?_
  refine J_bind (fun M182 hM182 => ?_)
  refine J_mono (d_cast C F hM182 rfl (jd jdt_Mo_init_13 36 rfl)) ?_
  refine J_mono (w_dup_r C (jd jdt_Mo_init_13 37 rfl)) ?_
  refine J_mono (w_iconst_3 C (jd jdt_Mo_init_13 38 rfl)) ?_
  refine J_mono (w_bipush_97 C (jd jdt_Mo_init_13 39 rfl)) ?_
  refine J_bind (fun M183 hM183 => ?_)
  refine J_mono (d_cast C F hM183 rfl (jd jdt_Mo_init_14 0 rfl)) ?_
  refine J_mono (w_dup_r C (jd jdt_Mo_init_14 1 rfl)) ?_
  refine J_mono (w_iconst_4 C (jd jdt_Mo_init_14 2 rfl)) ?_
  refine J_mono (w_bipush_108 C (jd jdt_Mo_init_14 3 rfl)) ?_
  refine J_bind (fun M184 hM184 => ?_)
  refine J_mono (d_cast C F hM184 rfl (jd jdt_Mo_init_14 4 rfl)) ?_
  refine J_bind (fun M185 hM185 => ?_)
  refine J_mono (d_put (Cl := "SluicePitModel") (T := jT12) (Y := jY12) (N := 100) C F hM185 (by decide) rfl jin12 jY12_ok jnm12 (by decide) jw_1238 rfl (Or.inr ⟨rfl, hname, rfl⟩) rfl rfl (jd jdt_Mo_init_14 5 rfl)) ?_
  refine J_mono (w_aload_n C (jd jdt_Mo_init_14 6 rfl) rfl) ?_
  refine J_mono (w_iconst_4 C (jd jdt_Mo_init_14 7 rfl)) ?_
  refine J_bind (fun M186 hM186 => ?_)
  refine J_mono (d_newa (at_ := .char) C F hM186 jw_1468 rfl (Or.inr (Or.inr ⟨rfl, rfl, rfl⟩)) (by decide) (by decide) (by decide) (Nat.le_trans (Nat.le_of_ble_eq_true rfl : 44 ≤ 63) hRc) (Nat.le_trans (Nat.le_of_ble_eq_true rfl : 14066 ≤ 19711) hRs) (jd jdt_Mo_init_14 8 rfl)) ?_
  refine J_mono (w_dup_r C (jd jdt_Mo_init_14 9 rfl)) ?_
  refine J_mono (w_iconst_0 C (jd jdt_Mo_init_14 10 rfl)) ?_
  refine J_mono (w_bipush_109 C (jd jdt_Mo_init_14 11 rfl)) ?_
  refine J_bind (fun M187 hM187 => ?_)
  refine J_mono (d_cast C F hM187 rfl (jd jdt_Mo_init_14 12 rfl)) ?_
  refine J_mono (w_dup_r C (jd jdt_Mo_init_14 13 rfl)) ?_
  refine J_mono (w_iconst_1 C (jd jdt_Mo_init_14 14 rfl)) ?_
  refine J_mono (w_bipush_111 C (jd jdt_Mo_init_14 15 rfl)) ?_
  refine J_bind (fun M188 hM188 => ?_)
  refine J_mono (d_cast C F hM188 rfl (jd jdt_Mo_init_14 16 rfl)) ?_
  refine J_mono (w_dup_r C (jd jdt_Mo_init_14 17 rfl)) ?_
  refine J_mono (w_iconst_2 C (jd jdt_Mo_init_14 18 rfl)) ?_
  refine J_mono (w_bipush_115 C (jd jdt_Mo_init_14 19 rfl)) ?_
  refine J_bind (fun M189 hM189 => ?_)
  refine J_mono (d_cast C F hM189 rfl (jd jdt_Mo_init_14 20 rfl)) ?_
  refine J_mono (w_dup_r C (jd jdt_Mo_init_14 21 rfl)) ?_
  refine J_mono (w_iconst_3 C (jd jdt_Mo_init_14 22 rfl)) ?_
  refine J_mono (w_bipush_116 C (jd jdt_Mo_init_14 23 rfl)) ?_
  refine J_bind (fun M190 hM190 => ?_)
  refine J_mono (d_cast C F hM190 rfl (jd jdt_Mo_init_14 24 rfl)) ?_
  refine J_bind (fun M191 hM191 => ?_)
  refine J_mono (d_put (Cl := "SluicePitModel") (T := jT12) (Y := jY12) (N := 100) C F hM191 (by decide) rfl jin12 jY12_ok jnm12 (by decide) jw_1239 rfl (Or.inr ⟨rfl, hname, rfl⟩) rfl rfl (jd jdt_Mo_init_14 25 rfl)) ?_
  refine J_mono (w_aload_n C (jd jdt_Mo_init_14 26 rfl) rfl) ?_
  refine J_mono (w_iconst_5 C (jd jdt_Mo_init_14 27 rfl)) ?_
  refine J_bind (fun M192 hM192 => ?_)
  refine J_mono (d_newa (at_ := .char) C F hM192 jw_1468 rfl (Or.inr (Or.inr ⟨rfl, rfl, rfl⟩)) (by decide) (by decide) (by decide) (Nat.le_trans (Nat.le_of_ble_eq_true rfl : 45 ≤ 63) hRc) (Nat.le_trans (Nat.le_of_ble_eq_true rfl : 14071 ≤ 19711) hRs) (jd jdt_Mo_init_14 28 rfl)) ?_
  refine J_mono (w_dup_r C (jd jdt_Mo_init_14 29 rfl)) ?_
  refine J_mono (w_iconst_0 C (jd jdt_Mo_init_14 30 rfl)) ?_
  refine J_mono (w_bipush_108 C (jd jdt_Mo_init_14 31 rfl)) ?_
  refine J_bind (fun M193 hM193 => ?_)
  refine J_mono (d_cast C F hM193 rfl (jd jdt_Mo_init_14 32 rfl)) ?_
  refine J_mono (w_dup_r C (jd jdt_Mo_init_14 33 rfl)) ?_
  refine J_mono (w_iconst_1 C (jd jdt_Mo_init_14 34 rfl)) ?_
  refine J_mono (w_bipush_101 C (jd jdt_Mo_init_14 35 rfl)) ?_
  refine J_bind (fun M194 hM194 => ?_)
  refine J_mono (d_cast C F hM194 rfl (jd jdt_Mo_init_14 36 rfl)) ?_
  refine J_mono (w_dup_r C (jd jdt_Mo_init_14 37 rfl)) ?_
  refine J_mono (w_iconst_2 C (jd jdt_Mo_init_14 38 rfl)) ?_
  refine J_mono (w_bipush_97 C (jd jdt_Mo_init_14 39 rfl)) ?_
  refine J_bind (fun M195 hM195 => ?_)
  refine J_mono (d_cast C F hM195 rfl (jd jdt_Mo_init_15 0 rfl)) ?_
  refine J_mono (w_dup_r C (jd jdt_Mo_init_15 1 rfl)) ?_
  refine J_mono (w_iconst_3 C (jd jdt_Mo_init_15 2 rfl)) ?_
  refine J_mono (w_bipush_115 C (jd jdt_Mo_init_15 3 rfl)) ?_
  refine J_bind (fun M196 hM196 => ?_)
  refine J_mono (d_cast C F hM196 rfl (jd jdt_Mo_init_15 4 rfl)) ?_
  refine J_mono (w_dup_r C (jd jdt_Mo_init_15 5 rfl)) ?_
  refine J_mono (w_iconst_4 C (jd jdt_Mo_init_15 6 rfl)) ?_
  refine J_mono (w_bipush_116 C (jd jdt_Mo_init_15 7 rfl)) ?_
  refine J_bind (fun M197 hM197 => ?_)
  refine J_mono (d_cast C F hM197 rfl (jd jdt_Mo_init_15 8 rfl)) ?_
  refine J_bind (fun M198 hM198 => ?_)
  refine J_mono (d_put (Cl := "SluicePitModel") (T := jT12) (Y := jY12) (N := 100) C F hM198 (by decide) rfl jin12 jY12_ok jnm12 (by decide) jw_1240 rfl (Or.inr ⟨rfl, hname, rfl⟩) rfl rfl (jd jdt_Mo_init_15 9 rfl)) ?_
  refine J_mono (w_aload_n C (jd jdt_Mo_init_15 10 rfl) rfl) ?_
  refine J_mono (w_iconst_3 C (jd jdt_Mo_init_15 11 rfl)) ?_
  refine J_bind (fun M199 hM199 => ?_)
  refine J_mono (d_newa (at_ := .char) C F hM199 jw_1468 rfl (Or.inr (Or.inr ⟨rfl, rfl, rfl⟩)) (by decide) (by decide) (by decide) (Nat.le_trans (Nat.le_of_ble_eq_true rfl : 46 ≤ 63) hRc) (Nat.le_trans (Nat.le_of_ble_eq_true rfl : 14074 ≤ 19711) hRs) (jd jdt_Mo_init_15 12 rfl)) ?_
  refine J_mono (w_dup_r C (jd jdt_Mo_init_15 13 rfl)) ?_
  refine J_mono (w_iconst_0 C (jd jdt_Mo_init_15 14 rfl)) ?_
  refine J_mono (w_bipush_110 C (jd jdt_Mo_init_15 15 rfl)) ?_
  refine J_bind (fun M200 hM200 => ?_)
  refine J_mono (d_cast C F hM200 rfl (jd jdt_Mo_init_15 16 rfl)) ?_
  refine J_mono (w_dup_r C (jd jdt_Mo_init_15 17 rfl)) ?_
  refine J_mono (w_iconst_1 C (jd jdt_Mo_init_15 18 rfl)) ?_
  refine J_mono (w_bipush_111 C (jd jdt_Mo_init_15 19 rfl)) ?_
  refine J_bind (fun M201 hM201 => ?_)
  refine J_mono (d_cast C F hM201 rfl (jd jdt_Mo_init_15 20 rfl)) ?_
  refine J_mono (w_dup_r C (jd jdt_Mo_init_15 21 rfl)) ?_
  refine J_mono (w_iconst_2 C (jd jdt_Mo_init_15 22 rfl)) ?_
  refine J_mono (w_bipush_116 C (jd jdt_Mo_init_15 23 rfl)) ?_
  refine J_bind (fun M202 hM202 => ?_)
  refine J_mono (d_cast C F hM202 rfl (jd jdt_Mo_init_15 24 rfl)) ?_
  refine J_bind (fun M203 hM203 => ?_)
  refine J_mono (d_put (Cl := "SluicePitModel") (T := jT12) (Y := jY12) (N := 100) C F hM203 (by decide) rfl jin12 jY12_ok jnm12 (by decide) jw_1241 rfl (Or.inr ⟨rfl, hname, rfl⟩) rfl rfl (jd jdt_Mo_init_15 25 rfl)) ?_
  refine J_mono (w_aload_n C (jd jdt_Mo_init_15 26 rfl) rfl) ?_
  refine J_mono (w_iconst_3 C (jd jdt_Mo_init_15 27 rfl)) ?_
  refine J_bind (fun M204 hM204 => ?_)
  refine J_mono (d_newa (at_ := .char) C F hM204 jw_1468 rfl (Or.inr (Or.inr ⟨rfl, rfl, rfl⟩)) (by decide) (by decide) (by decide) (Nat.le_trans (Nat.le_of_ble_eq_true rfl : 47 ≤ 63) hRc) (Nat.le_trans (Nat.le_of_ble_eq_true rfl : 14077 ≤ 19711) hRs) (jd jdt_Mo_init_15 28 rfl)) ?_
  refine J_mono (w_dup_r C (jd jdt_Mo_init_15 29 rfl)) ?_
  refine J_mono (w_iconst_0 C (jd jdt_Mo_init_15 30 rfl)) ?_
  refine J_mono (w_bipush_97 C (jd jdt_Mo_init_15 31 rfl)) ?_
  refine J_bind (fun M205 hM205 => ?_)
  refine J_mono (d_cast C F hM205 rfl (jd jdt_Mo_init_15 32 rfl)) ?_
  refine J_mono (w_dup_r C (jd jdt_Mo_init_15 33 rfl)) ?_
  refine J_mono (w_iconst_1 C (jd jdt_Mo_init_15 34 rfl)) ?_
  refine J_mono (w_bipush_110 C (jd jdt_Mo_init_15 35 rfl)) ?_
  refine J_bind (fun M206 hM206 => ?_)
  refine J_mono (d_cast C F hM206 rfl (jd jdt_Mo_init_15 36 rfl)) ?_
  refine J_mono (w_dup_r C (jd jdt_Mo_init_15 37 rfl)) ?_
  refine J_mono (w_iconst_2 C (jd jdt_Mo_init_15 38 rfl)) ?_
  refine J_mono (w_bipush_100 C (jd jdt_Mo_init_15 39 rfl)) ?_
  refine J_bind (fun M207 hM207 => ?_)
  refine J_mono (d_cast C F hM207 rfl (jd jdt_Mo_init_16 0 rfl)) ?_
  refine J_bind (fun M208 hM208 => ?_)
  refine J_mono (d_put (Cl := "SluicePitModel") (T := jT12) (Y := jY12) (N := 100) C F hM208 (by decide) rfl jin12 jY12_ok jnm12 (by decide) jw_1242 rfl (Or.inr ⟨rfl, hname, rfl⟩) rfl rfl (jd jdt_Mo_init_16 1 rfl)) ?_
  refine J_mono (w_aload_n C (jd jdt_Mo_init_16 2 rfl) rfl) ?_
  refine J_mono (w_iconst_2 C (jd jdt_Mo_init_16 3 rfl)) ?_
  refine J_bind (fun M209 hM209 => ?_)
  refine J_mono (d_newa (at_ := .char) C F hM209 jw_1468 rfl (Or.inr (Or.inr ⟨rfl, rfl, rfl⟩)) (by decide) (by decide) (by decide) (Nat.le_trans (Nat.le_of_ble_eq_true rfl : 48 ≤ 63) hRc) (Nat.le_trans (Nat.le_of_ble_eq_true rfl : 14079 ≤ 19711) hRs) (jd jdt_Mo_init_16 4 rfl)) ?_
  refine J_mono (w_dup_r C (jd jdt_Mo_init_16 5 rfl)) ?_
  refine J_mono (w_iconst_0 C (jd jdt_Mo_init_16 6 rfl)) ?_
  refine J_mono (w_bipush_111 C (jd jdt_Mo_init_16 7 rfl)) ?_
  refine J_bind (fun M210 hM210 => ?_)
  refine J_mono (d_cast C F hM210 rfl (jd jdt_Mo_init_16 8 rfl)) ?_
  refine J_mono (w_dup_r C (jd jdt_Mo_init_16 9 rfl)) ?_
  refine J_mono (w_iconst_1 C (jd jdt_Mo_init_16 10 rfl)) ?_
  refine J_mono (w_bipush_114 C (jd jdt_Mo_init_16 11 rfl)) ?_
  refine J_bind (fun M211 hM211 => ?_)
  refine J_mono (d_cast C F hM211 rfl (jd jdt_Mo_init_16 12 rfl)) ?_
  refine J_bind (fun M212 hM212 => ?_)
  refine J_mono (d_put (Cl := "SluicePitModel") (T := jT12) (Y := jY12) (N := 100) C F hM212 (by decide) rfl jin12 jY12_ok jnm12 (by decide) jw_1243 rfl (Or.inr ⟨rfl, hname, rfl⟩) rfl rfl (jd jdt_Mo_init_16 13 rfl)) ?_
  refine J_mono (w_aload_n C (jd jdt_Mo_init_16 14 rfl) rfl) ?_
  refine J_mono (w_iconst_3 C (jd jdt_Mo_init_16 15 rfl)) ?_
  refine J_bind (fun M213 hM213 => ?_)
  refine J_mono (d_newa (at_ := .char) C F hM213 jw_1468 rfl (Or.inr (Or.inr ⟨rfl, rfl, rfl⟩)) (by decide) (by decide) (by decide) (Nat.le_trans (Nat.le_of_ble_eq_true rfl : 49 ≤ 63) hRc) (Nat.le_trans (Nat.le_of_ble_eq_true rfl : 14082 ≤ 19711) hRs) (jd jdt_Mo_init_16 16 rfl)) ?_
  refine J_mono (w_dup_r C (jd jdt_Mo_init_16 17 rfl)) ?_
  refine J_mono (w_iconst_0 C (jd jdt_Mo_init_16 18 rfl)) ?_
  refine J_mono (w_bipush_97 C (jd jdt_Mo_init_16 19 rfl)) ?_
  refine J_bind (fun M214 hM214 => ?_)
  refine J_mono (d_cast C F hM214 rfl (jd jdt_Mo_init_16 20 rfl)) ?_
  refine J_mono (w_dup_r C (jd jdt_Mo_init_16 21 rfl)) ?_
  refine J_mono (w_iconst_1 C (jd jdt_Mo_init_16 22 rfl)) ?_
  refine J_mono (w_bipush_108 C (jd jdt_Mo_init_16 23 rfl)) ?_
  refine J_bind (fun M215 hM215 => ?_)
  refine J_mono (d_cast C F hM215 rfl (jd jdt_Mo_init_16 24 rfl)) ?_
  refine J_mono (w_dup_r C (jd jdt_Mo_init_16 25 rfl)) ?_
  refine J_mono (w_iconst_2 C (jd jdt_Mo_init_16 26 rfl)) ?_
  refine J_mono (w_bipush_108 C (jd jdt_Mo_init_16 27 rfl)) ?_
  refine J_bind (fun M216 hM216 => ?_)
  refine J_mono (d_cast C F hM216 rfl (jd jdt_Mo_init_16 28 rfl)) ?_
  refine J_bind (fun M217 hM217 => ?_)
  refine J_mono (d_put (Cl := "SluicePitModel") (T := jT12) (Y := jY12) (N := 100) C F hM217 (by decide) rfl jin12 jY12_ok jnm12 (by decide) jw_1244 rfl (Or.inr ⟨rfl, hname, rfl⟩) rfl rfl (jd jdt_Mo_init_16 29 rfl)) ?_
  refine J_mono (w_aload_n C (jd jdt_Mo_init_16 30 rfl) rfl) ?_
  refine J_mono (w_iconst_3 C (jd jdt_Mo_init_16 31 rfl)) ?_
  refine J_bind (fun M218 hM218 => ?_)
  refine J_mono (d_newa (at_ := .char) C F hM218 jw_1468 rfl (Or.inr (Or.inr ⟨rfl, rfl, rfl⟩)) (by decide) (by decide) (by decide) (Nat.le_trans (Nat.le_of_ble_eq_true rfl : 50 ≤ 63) hRc) (Nat.le_trans (Nat.le_of_ble_eq_true rfl : 14085 ≤ 19711) hRs) (jd jdt_Mo_init_16 32 rfl)) ?_
  refine J_mono (w_dup_r C (jd jdt_Mo_init_16 33 rfl)) ?_
  refine J_mono (w_iconst_0 C (jd jdt_Mo_init_16 34 rfl)) ?_
  refine J_mono (w_bipush_109 C (jd jdt_Mo_init_16 35 rfl)) ?_
  refine J_bind (fun M219 hM219 => ?_)
  refine J_mono (d_cast C F hM219 rfl (jd jdt_Mo_init_16 36 rfl)) ?_
  refine J_mono (w_dup_r C (jd jdt_Mo_init_16 37 rfl)) ?_
  refine J_mono (w_iconst_1 C (jd jdt_Mo_init_16 38 rfl)) ?_
  refine J_mono (w_bipush_105 C (jd jdt_Mo_init_16 39 rfl)) ?_
  refine J_bind (fun M220 hM220 => ?_)
  refine J_mono (d_cast C F hM220 rfl (jd jdt_Mo_init_17 0 rfl)) ?_
  refine J_mono (w_dup_r C (jd jdt_Mo_init_17 1 rfl)) ?_
  refine J_mono (w_iconst_2 C (jd jdt_Mo_init_17 2 rfl)) ?_
  refine J_mono (w_bipush_110 C (jd jdt_Mo_init_17 3 rfl)) ?_
  refine J_bind (fun M221 hM221 => ?_)
  refine J_mono (d_cast C F hM221 rfl (jd jdt_Mo_init_17 4 rfl)) ?_
  refine J_bind (fun M222 hM222 => ?_)
  refine J_mono (d_put (Cl := "SluicePitModel") (T := jT12) (Y := jY12) (N := 100) C F hM222 (by decide) rfl jin12 jY12_ok jnm12 (by decide) jw_1245 rfl (Or.inr ⟨rfl, hname, rfl⟩) rfl rfl (jd jdt_Mo_init_17 5 rfl)) ?_
  refine J_mono (w_aload_n C (jd jdt_Mo_init_17 6 rfl) rfl) ?_
  refine J_mono (w_iconst_3 C (jd jdt_Mo_init_17 7 rfl)) ?_
  refine J_bind (fun M223 hM223 => ?_)
  refine J_mono (d_newa (at_ := .char) C F hM223 jw_1468 rfl (Or.inr (Or.inr ⟨rfl, rfl, rfl⟩)) (by decide) (by decide) (by decide) (Nat.le_trans (Nat.le_of_ble_eq_true rfl : 51 ≤ 63) hRc) (Nat.le_trans (Nat.le_of_ble_eq_true rfl : 14088 ≤ 19711) hRs) (jd jdt_Mo_init_17 8 rfl)) ?_
  refine J_mono (w_dup_r C (jd jdt_Mo_init_17 9 rfl)) ?_
  refine J_mono (w_iconst_0 C (jd jdt_Mo_init_17 10 rfl)) ?_
  refine J_mono (w_bipush_109 C (jd jdt_Mo_init_17 11 rfl)) ?_
  refine J_bind (fun M224 hM224 => ?_)
  refine J_mono (d_cast C F hM224 rfl (jd jdt_Mo_init_17 12 rfl)) ?_
  refine J_mono (w_dup_r C (jd jdt_Mo_init_17 13 rfl)) ?_
  refine J_mono (w_iconst_1 C (jd jdt_Mo_init_17 14 rfl)) ?_
  refine J_mono (w_bipush_97 C (jd jdt_Mo_init_17 15 rfl)) ?_
  refine J_bind (fun M225 hM225 => ?_)
  refine J_mono (d_cast C F hM225 rfl (jd jdt_Mo_init_17 16 rfl)) ?_
  refine J_mono (w_dup_r C (jd jdt_Mo_init_17 17 rfl)) ?_
  refine J_mono (w_iconst_2 C (jd jdt_Mo_init_17 18 rfl)) ?_
  refine J_mono (w_bipush_120 C (jd jdt_Mo_init_17 19 rfl)) ?_
  refine J_bind (fun M226 hM226 => ?_)
  refine J_mono (d_cast C F hM226 rfl (jd jdt_Mo_init_17 20 rfl)) ?_
  refine J_bind (fun M227 hM227 => ?_)
  refine J_mono (d_put (Cl := "SluicePitModel") (T := jT12) (Y := jY12) (N := 100) C F hM227 (by decide) rfl jin12 jY12_ok jnm12 (by decide) jw_1246 rfl (Or.inr ⟨rfl, hname, rfl⟩) rfl rfl (jd jdt_Mo_init_17 21 rfl)) ?_
  refine J_mono (w_aload_n C (jd jdt_Mo_init_17 22 rfl) rfl) ?_
  refine J_mono (w_iconst_3 C (jd jdt_Mo_init_17 23 rfl)) ?_
  refine J_bind (fun M228 hM228 => ?_)
  refine J_mono (d_newa (at_ := .char) C F hM228 jw_1468 rfl (Or.inr (Or.inr ⟨rfl, rfl, rfl⟩)) (by decide) (by decide) (by decide) (Nat.le_trans (Nat.le_of_ble_eq_true rfl : 52 ≤ 63) hRc) (Nat.le_trans (Nat.le_of_ble_eq_true rfl : 14091 ≤ 19711) hRs) (jd jdt_Mo_init_17 24 rfl)) ?_
  refine J_mono (w_dup_r C (jd jdt_Mo_init_17 25 rfl)) ?_
  refine J_mono (w_iconst_0 C (jd jdt_Mo_init_17 26 rfl)) ?_
  refine J_mono (w_bipush_98 C (jd jdt_Mo_init_17 27 rfl)) ?_
  refine J_bind (fun M229 hM229 => ?_)
  refine J_mono (d_cast C F hM229 rfl (jd jdt_Mo_init_17 28 rfl)) ?_
  refine J_mono (w_dup_r C (jd jdt_Mo_init_17 29 rfl)) ?_
  refine J_mono (w_iconst_1 C (jd jdt_Mo_init_17 30 rfl)) ?_
  refine J_mono (w_bipush_97 C (jd jdt_Mo_init_17 31 rfl)) ?_
  refine J_bind (fun M230 hM230 => ?_)
  refine J_mono (d_cast C F hM230 rfl (jd jdt_Mo_init_17 32 rfl)) ?_
  refine J_mono (w_dup_r C (jd jdt_Mo_init_17 33 rfl)) ?_
  refine J_mono (w_iconst_2 C (jd jdt_Mo_init_17 34 rfl)) ?_
  refine J_mono (w_bipush_114 C (jd jdt_Mo_init_17 35 rfl)) ?_
  refine J_bind (fun M231 hM231 => ?_)
  refine J_mono (d_cast C F hM231 rfl (jd jdt_Mo_init_17 36 rfl)) ?_
  refine J_bind (fun M232 hM232 => ?_)
  refine J_mono (d_put (Cl := "SluicePitModel") (T := jT12) (Y := jY12) (N := 100) C F hM232 (by decide) rfl jin12 jY12_ok jnm12 (by decide) jw_1247 rfl (Or.inr ⟨rfl, hname, rfl⟩) rfl rfl (jd jdt_Mo_init_17 37 rfl)) ?_
  refine J_mono (w_aload_n C (jd jdt_Mo_init_17 38 rfl) rfl) ?_
  refine J_mono (w_iconst_4 C (jd jdt_Mo_init_17 39 rfl)) ?_
  refine J_bind (fun M233 hM233 => ?_)
  refine J_mono (d_newa (at_ := .char) C F hM233 jw_1468 rfl (Or.inr (Or.inr ⟨rfl, rfl, rfl⟩)) (by decide) (by decide) (by decide) (Nat.le_trans (Nat.le_of_ble_eq_true rfl : 53 ≤ 63) hRc) (Nat.le_trans (Nat.le_of_ble_eq_true rfl : 14095 ≤ 19711) hRs) (jd jdt_Mo_init_18 0 rfl)) ?_
  refine J_mono (w_dup_r C (jd jdt_Mo_init_18 1 rfl)) ?_
  refine J_mono (w_iconst_0 C (jd jdt_Mo_init_18 2 rfl)) ?_
  refine J_mono (w_bipush_99 C (jd jdt_Mo_init_18 3 rfl)) ?_
  refine J_bind (fun M234 hM234 => ?_)
  refine J_mono (d_cast C F hM234 rfl (jd jdt_Mo_init_18 4 rfl)) ?_
  refine J_mono (w_dup_r C (jd jdt_Mo_init_18 5 rfl)) ?_
  refine J_mono (w_iconst_1 C (jd jdt_Mo_init_18 6 rfl)) ?_
  refine J_mono (w_bipush_97 C (jd jdt_Mo_init_18 7 rfl)) ?_
  refine J_bind (fun M235 hM235 => ?_)
  refine J_mono (d_cast C F hM235 rfl (jd jdt_Mo_init_18 8 rfl)) ?_
  refine J_mono (w_dup_r C (jd jdt_Mo_init_18 9 rfl)) ?_
  refine J_mono (w_iconst_2 C (jd jdt_Mo_init_18 10 rfl)) ?_
  refine J_mono (w_bipush_109 C (jd jdt_Mo_init_18 11 rfl)) ?_
  refine J_bind (fun M236 hM236 => ?_)
  refine J_mono (d_cast C F hM236 rfl (jd jdt_Mo_init_18 12 rfl)) ?_
  refine J_mono (w_dup_r C (jd jdt_Mo_init_18 13 rfl)) ?_
  refine J_mono (w_iconst_3 C (jd jdt_Mo_init_18 14 rfl)) ?_
  refine J_mono (w_bipush_101 C (jd jdt_Mo_init_18 15 rfl)) ?_
  refine J_bind (fun M237 hM237 => ?_)
  refine J_mono (d_cast C F hM237 rfl (jd jdt_Mo_init_18 16 rfl)) ?_
  refine J_bind (fun M238 hM238 => ?_)
  refine J_mono (d_put (Cl := "SluicePitModel") (T := jT12) (Y := jY12) (N := 100) C F hM238 (by decide) rfl jin12 jY12_ok jnm12 (by decide) jw_1248 rfl (Or.inr ⟨rfl, hname, rfl⟩) rfl rfl (jd jdt_Mo_init_18 17 rfl)) ?_
  refine J_mono (w_aload_n C (jd jdt_Mo_init_18 18 rfl) rfl) ?_
  refine J_mono (w_iconst_3 C (jd jdt_Mo_init_18 19 rfl)) ?_
  refine J_bind (fun M239 hM239 => ?_)
  refine J_mono (d_newa (at_ := .char) C F hM239 jw_1468 rfl (Or.inr (Or.inr ⟨rfl, rfl, rfl⟩)) (by decide) (by decide) (by decide) (Nat.le_trans (Nat.le_of_ble_eq_true rfl : 54 ≤ 63) hRc) (Nat.le_trans (Nat.le_of_ble_eq_true rfl : 14098 ≤ 19711) hRs) (jd jdt_Mo_init_18 20 rfl)) ?_
  refine J_mono (w_dup_r C (jd jdt_Mo_init_18 21 rfl)) ?_
  refine J_mono (w_iconst_0 C (jd jdt_Mo_init_18 22 rfl)) ?_
  refine J_mono (w_bipush_111 C (jd jdt_Mo_init_18 23 rfl)) ?_
  refine J_bind (fun M240 hM240 => ?_)
  refine J_mono (d_cast C F hM240 rfl (jd jdt_Mo_init_18 24 rfl)) ?_
  refine J_mono (w_dup_r C (jd jdt_Mo_init_18 25 rfl)) ?_
  refine J_mono (w_iconst_1 C (jd jdt_Mo_init_18 26 rfl)) ?_
  refine J_mono (w_bipush_117 C (jd jdt_Mo_init_18 27 rfl)) ?_
  refine J_bind (fun M241 hM241 => ?_)
  refine J_mono (d_cast C F hM241 rfl (jd jdt_Mo_init_18 28 rfl)) ?_
  refine J_mono (w_dup_r C (jd jdt_Mo_init_18 29 rfl)) ?_
  refine J_mono (w_iconst_2 C (jd jdt_Mo_init_18 30 rfl)) ?_
  refine J_mono (w_bipush_116 C (jd jdt_Mo_init_18 31 rfl)) ?_
  refine J_bind (fun M242 hM242 => ?_)
  refine J_mono (d_cast C F hM242 rfl (jd jdt_Mo_init_18 32 rfl)) ?_
  refine J_bind (fun M243 hM243 => ?_)
  refine J_mono (d_put (Cl := "SluicePitModel") (T := jT12) (Y := jY12) (N := 100) C F hM243 (by decide) rfl jin12 jY12_ok jnm12 (by decide) jw_1249 rfl (Or.inr ⟨rfl, hname, rfl⟩) rfl rfl (jd jdt_Mo_init_18 33 rfl)) ?_
  refine J_mono (w_aload_n C (jd jdt_Mo_init_18 34 rfl) rfl) ?_
  refine J_mono (w_iconst_5 C (jd jdt_Mo_init_18 35 rfl)) ?_
  refine J_bind (fun M244 hM244 => ?_)
  refine J_mono (d_newa (at_ := .char) C F hM244 jw_1468 rfl (Or.inr (Or.inr ⟨rfl, rfl, rfl⟩)) (by decide) (by decide) (by decide) (Nat.le_trans (Nat.le_of_ble_eq_true rfl : 55 ≤ 63) hRc) (Nat.le_trans (Nat.le_of_ble_eq_true rfl : 14103 ≤ 19711) hRs) (jd jdt_Mo_init_18 36 rfl)) ?_
  refine J_mono (w_dup_r C (jd jdt_Mo_init_18 37 rfl)) ?_
  refine J_mono (w_iconst_0 C (jd jdt_Mo_init_18 38 rfl)) ?_
  refine J_mono (w_bipush_100 C (jd jdt_Mo_init_18 39 rfl)) ?_
  refine J_bind (fun M245 hM245 => ?_)
  refine J_mono (d_cast C F hM245 rfl (jd jdt_Mo_init_19 0 rfl)) ?_
  refine J_mono (w_dup_r C (jd jdt_Mo_init_19 1 rfl)) ?_
  refine J_mono (w_iconst_1 C (jd jdt_Mo_init_19 2 rfl)) ?_
  refine J_mono (w_bipush_114 C (jd jdt_Mo_init_19 3 rfl)) ?_
  refine J_bind (fun M246 hM246 => ?_)
  refine J_mono (d_cast C F hM246 rfl (jd jdt_Mo_init_19 4 rfl)) ?_
  refine J_mono (w_dup_r C (jd jdt_Mo_init_19 5 rfl)) ?_
  refine J_mono (w_iconst_2 C (jd jdt_Mo_init_19 6 rfl)) ?_
  refine J_mono (w_bipush_117 C (jd jdt_Mo_init_19 7 rfl)) ?_
  refine J_bind (fun M247 hM247 => ?_)
  refine J_mono (d_cast C F hM247 rfl (jd jdt_Mo_init_19 8 rfl)) ?_
  refine J_mono (w_dup_r C (jd jdt_Mo_init_19 9 rfl)) ?_
  refine J_mono (w_iconst_3 C (jd jdt_Mo_init_19 10 rfl)) ?_
  refine J_mono (w_bipush_110 C (jd jdt_Mo_init_19 11 rfl)) ?_
  refine J_bind (fun M248 hM248 => ?_)
  refine J_mono (d_cast C F hM248 rfl (jd jdt_Mo_init_19 12 rfl)) ?_
  refine J_mono (w_dup_r C (jd jdt_Mo_init_19 13 rfl)) ?_
  refine J_mono (w_iconst_4 C (jd jdt_Mo_init_19 14 rfl)) ?_
  refine J_mono (w_bipush_107 C (jd jdt_Mo_init_19 15 rfl)) ?_
  refine J_bind (fun M249 hM249 => ?_)
  refine J_mono (d_cast C F hM249 rfl (jd jdt_Mo_init_19 16 rfl)) ?_
  refine J_bind (fun M250 hM250 => ?_)
  refine J_mono (d_put (Cl := "SluicePitModel") (T := jT12) (Y := jY12) (N := 100) C F hM250 (by decide) rfl jin12 jY12_ok jnm12 (by decide) jw_1250 rfl (Or.inr ⟨rfl, hname, rfl⟩) rfl rfl (jd jdt_Mo_init_19 17 rfl)) ?_
  refine J_mono (w_aload_n C (jd jdt_Mo_init_19 18 rfl) rfl) ?_
  refine J_mono (w_iconst_5 C (jd jdt_Mo_init_19 19 rfl)) ?_
  refine J_bind (fun M251 hM251 => ?_)
  refine J_mono (d_newa (at_ := .char) C F hM251 jw_1468 rfl (Or.inr (Or.inr ⟨rfl, rfl, rfl⟩)) (by decide) (by decide) (by decide) (Nat.le_trans (Nat.le_of_ble_eq_true rfl : 56 ≤ 63) hRc) (Nat.le_trans (Nat.le_of_ble_eq_true rfl : 14108 ≤ 19711) hRs) (jd jdt_Mo_init_19 20 rfl)) ?_
  refine J_mono (w_dup_r C (jd jdt_Mo_init_19 21 rfl)) ?_
  refine J_mono (w_iconst_0 C (jd jdt_Mo_init_19 22 rfl)) ?_
  refine J_mono (w_bipush_115 C (jd jdt_Mo_init_19 23 rfl)) ?_
  refine J_bind (fun M252 hM252 => ?_)
  refine J_mono (d_cast C F hM252 rfl (jd jdt_Mo_init_19 24 rfl)) ?_
  refine J_mono (w_dup_r C (jd jdt_Mo_init_19 25 rfl)) ?_
  refine J_mono (w_iconst_1 C (jd jdt_Mo_init_19 26 rfl)) ?_
  refine J_mono (w_bipush_112 C (jd jdt_Mo_init_19 27 rfl)) ?_
  refine J_bind (fun M253 hM253 => ?_)
  refine J_mono (d_cast C F hM253 rfl (jd jdt_Mo_init_19 28 rfl)) ?_
  refine J_mono (w_dup_r C (jd jdt_Mo_init_19 29 rfl)) ?_
  refine J_mono (w_iconst_2 C (jd jdt_Mo_init_19 30 rfl)) ?_
  refine J_mono (w_bipush_105 C (jd jdt_Mo_init_19 31 rfl)) ?_
  refine J_bind (fun M254 hM254 => ?_)
  refine J_mono (d_cast C F hM254 rfl (jd jdt_Mo_init_19 32 rfl)) ?_
  refine J_mono (w_dup_r C (jd jdt_Mo_init_19 33 rfl)) ?_
  refine J_mono (w_iconst_3 C (jd jdt_Mo_init_19 34 rfl)) ?_
  refine J_mono (w_bipush_108 C (jd jdt_Mo_init_19 35 rfl)) ?_
  refine J_bind (fun M255 hM255 => ?_)
  refine J_mono (d_cast C F hM255 rfl (jd jdt_Mo_init_19 36 rfl)) ?_
  refine J_mono (w_dup_r C (jd jdt_Mo_init_19 37 rfl)) ?_
  refine J_mono (w_iconst_4 C (jd jdt_Mo_init_19 38 rfl)) ?_
  refine J_mono (w_bipush_116 C (jd jdt_Mo_init_19 39 rfl)) ?_
  refine J_bind (fun M256 hM256 => ?_)
  refine J_mono (d_cast C F hM256 rfl (jd jdt_Mo_init_20 0 rfl)) ?_
  refine J_bind (fun M257 hM257 => ?_)
  refine J_mono (d_put (Cl := "SluicePitModel") (T := jT12) (Y := jY12) (N := 100) C F hM257 (by decide) rfl jin12 jY12_ok jnm12 (by decide) jw_1251 rfl (Or.inr ⟨rfl, hname, rfl⟩) rfl rfl (jd jdt_Mo_init_20 1 rfl)) ?_
  refine J_mono (w_aload_n C (jd jdt_Mo_init_20 2 rfl) rfl) ?_
  refine J_mono (w_bipush_6 C (jd jdt_Mo_init_20 3 rfl)) ?_
  refine J_bind (fun M258 hM258 => ?_)
  refine J_mono (d_newa (at_ := .char) C F hM258 jw_1468 rfl (Or.inr (Or.inr ⟨rfl, rfl, rfl⟩)) (by decide) (by decide) (by decide) (Nat.le_trans (Nat.le_of_ble_eq_true rfl : 57 ≤ 63) hRc) (Nat.le_trans (Nat.le_of_ble_eq_true rfl : 14114 ≤ 19711) hRs) (jd jdt_Mo_init_20 4 rfl)) ?_
  refine J_mono (w_dup_r C (jd jdt_Mo_init_20 5 rfl)) ?_
  refine J_mono (w_iconst_0 C (jd jdt_Mo_init_20 6 rfl)) ?_
  refine J_mono (w_bipush_116 C (jd jdt_Mo_init_20 7 rfl)) ?_
  refine J_bind (fun M259 hM259 => ?_)
  refine J_mono (d_cast C F hM259 rfl (jd jdt_Mo_init_20 8 rfl)) ?_
  refine J_mono (w_dup_r C (jd jdt_Mo_init_20 9 rfl)) ?_
  refine J_mono (w_iconst_1 C (jd jdt_Mo_init_20 10 rfl)) ?_
  refine J_mono (w_bipush_114 C (jd jdt_Mo_init_20 11 rfl)) ?_
  refine J_bind (fun M260 hM260 => ?_)
  refine J_mono (d_cast C F hM260 rfl (jd jdt_Mo_init_20 12 rfl)) ?_
  refine J_mono (w_dup_r C (jd jdt_Mo_init_20 13 rfl)) ?_
  refine J_mono (w_iconst_2 C (jd jdt_Mo_init_20 14 rfl)) ?_
  refine J_mono (w_bipush_105 C (jd jdt_Mo_init_20 15 rfl)) ?_
  refine J_bind (fun M261 hM261 => ?_)
  refine J_mono (d_cast C F hM261 rfl (jd jdt_Mo_init_20 16 rfl)) ?_
  refine J_mono (w_dup_r C (jd jdt_Mo_init_20 17 rfl)) ?_
  refine J_mono (w_iconst_3 C (jd jdt_Mo_init_20 18 rfl)) ?_
  refine J_mono (w_bipush_108 C (jd jdt_Mo_init_20 19 rfl)) ?_
  refine J_bind (fun M262 hM262 => ?_)
  refine J_mono (d_cast C F hM262 rfl (jd jdt_Mo_init_20 20 rfl)) ?_
  refine J_mono (w_dup_r C (jd jdt_Mo_init_20 21 rfl)) ?_
  refine J_mono (w_iconst_4 C (jd jdt_Mo_init_20 22 rfl)) ?_
  refine J_mono (w_bipush_108 C (jd jdt_Mo_init_20 23 rfl)) ?_
  refine J_bind (fun M263 hM263 => ?_)
  refine J_mono (d_cast C F hM263 rfl (jd jdt_Mo_init_20 24 rfl)) ?_
  refine J_mono (w_dup_r C (jd jdt_Mo_init_20 25 rfl)) ?_
  refine J_mono (w_iconst_5 C (jd jdt_Mo_init_20 26 rfl)) ?_
  refine J_mono (w_bipush_115 C (jd jdt_Mo_init_20 27 rfl)) ?_
  refine J_bind (fun M264 hM264 => ?_)
  refine J_mono (d_cast C F hM264 rfl (jd jdt_Mo_init_20 28 rfl)) ?_
  refine J_bind (fun M265 hM265 => ?_)
  refine J_mono (d_put (Cl := "SluicePitModel") (T := jT12) (Y := jY12) (N := 100) C F hM265 (by decide) rfl jin12 jY12_ok jnm12 (by decide) jw_1252 rfl (Or.inr ⟨rfl, hname, rfl⟩) rfl rfl (jd jdt_Mo_init_20 29 rfl)) ?_
  refine J_mono (w_aload_n C (jd jdt_Mo_init_20 30 rfl) rfl) ?_
  refine J_mono (w_iconst_4 C (jd jdt_Mo_init_20 31 rfl)) ?_
  refine J_bind (fun M266 hM266 => ?_)
  refine J_mono (d_newa (at_ := .char) C F hM266 jw_1468 rfl (Or.inr (Or.inr ⟨rfl, rfl, rfl⟩)) (by decide) (by decide) (by decide) (Nat.le_trans (Nat.le_of_ble_eq_true rfl : 58 ≤ 63) hRc) (Nat.le_trans (Nat.le_of_ble_eq_true rfl : 14118 ≤ 19711) hRs) (jd jdt_Mo_init_20 32 rfl)) ?_
  refine J_mono (w_dup_r C (jd jdt_Mo_init_20 33 rfl)) ?_
  refine J_mono (w_iconst_0 C (jd jdt_Mo_init_20 34 rfl)) ?_
  refine J_mono (w_bipush_100 C (jd jdt_Mo_init_20 35 rfl)) ?_
  refine J_bind (fun M267 hM267 => ?_)
  refine J_mono (d_cast C F hM267 rfl (jd jdt_Mo_init_20 36 rfl)) ?_
  refine J_mono (w_dup_r C (jd jdt_Mo_init_20 37 rfl)) ?_
  refine J_mono (w_iconst_1 C (jd jdt_Mo_init_20 38 rfl)) ?_
  refine J_mono (w_bipush_101 C (jd jdt_Mo_init_20 39 rfl)) ?_
  refine J_bind (fun M268 hM268 => ?_)
  refine J_mono (d_cast C F hM268 rfl (jd jdt_Mo_init_21 0 rfl)) ?_
  refine J_mono (w_dup_r C (jd jdt_Mo_init_21 1 rfl)) ?_
  refine J_mono (w_iconst_2 C (jd jdt_Mo_init_21 2 rfl)) ?_
  refine J_mono (w_bipush_101 C (jd jdt_Mo_init_21 3 rfl)) ?_
  refine J_bind (fun M269 hM269 => ?_)
  refine J_mono (d_cast C F hM269 rfl (jd jdt_Mo_init_21 4 rfl)) ?_
  refine J_mono (w_dup_r C (jd jdt_Mo_init_21 5 rfl)) ?_
  refine J_mono (w_iconst_3 C (jd jdt_Mo_init_21 6 rfl)) ?_
  refine J_mono (w_bipush_112 C (jd jdt_Mo_init_21 7 rfl)) ?_
  refine J_bind (fun M270 hM270 => ?_)
  refine J_mono (d_cast C F hM270 rfl (jd jdt_Mo_init_21 8 rfl)) ?_
  refine J_bind (fun M271 hM271 => ?_)
  refine J_mono (d_put (Cl := "SluicePitModel") (T := jT12) (Y := jY12) (N := 100) C F hM271 (by decide) rfl jin12 jY12_ok jnm12 (by decide) jw_1253 rfl (Or.inr ⟨rfl, hname, rfl⟩) rfl rfl (jd jdt_Mo_init_21 9 rfl)) ?_
  refine J_mono (w_aload_n C (jd jdt_Mo_init_21 10 rfl) rfl) ?_
  refine J_mono (w_iconst_4 C (jd jdt_Mo_init_21 11 rfl)) ?_
  refine J_bind (fun M272 hM272 => ?_)
  refine J_mono (d_newa (at_ := .char) C F hM272 jw_1468 rfl (Or.inr (Or.inr ⟨rfl, rfl, rfl⟩)) (by decide) (by decide) (by decide) (Nat.le_trans (Nat.le_of_ble_eq_true rfl : 59 ≤ 63) hRc) (Nat.le_trans (Nat.le_of_ble_eq_true rfl : 14122 ≤ 19711) hRs) (jd jdt_Mo_init_21 12 rfl)) ?_
  refine J_mono (w_dup_r C (jd jdt_Mo_init_21 13 rfl)) ?_
  refine J_mono (w_iconst_0 C (jd jdt_Mo_init_21 14 rfl)) ?_
  refine J_mono (w_bipush_98 C (jd jdt_Mo_init_21 15 rfl)) ?_
  refine J_bind (fun M273 hM273 => ?_)
  refine J_mono (d_cast C F hM273 rfl (jd jdt_Mo_init_21 16 rfl)) ?_
  refine J_mono (w_dup_r C (jd jdt_Mo_init_21 17 rfl)) ?_
  refine J_mono (w_iconst_1 C (jd jdt_Mo_init_21 18 rfl)) ?_
  refine J_mono (w_bipush_111 C (jd jdt_Mo_init_21 19 rfl)) ?_
  refine J_bind (fun M274 hM274 => ?_)
  refine J_mono (d_cast C F hM274 rfl (jd jdt_Mo_init_21 20 rfl)) ?_
  refine J_mono (w_dup_r C (jd jdt_Mo_init_21 21 rfl)) ?_
  refine J_mono (w_iconst_2 C (jd jdt_Mo_init_21 22 rfl)) ?_
  refine J_mono (w_bipush_97 C (jd jdt_Mo_init_21 23 rfl)) ?_
  refine J_bind (fun M275 hM275 => ?_)
  refine J_mono (d_cast C F hM275 rfl (jd jdt_Mo_init_21 24 rfl)) ?_
  refine J_mono (w_dup_r C (jd jdt_Mo_init_21 25 rfl)) ?_
  refine J_mono (w_iconst_3 C (jd jdt_Mo_init_21 26 rfl)) ?_
  refine J_mono (w_bipush_116 C (jd jdt_Mo_init_21 27 rfl)) ?_
  refine J_bind (fun M276 hM276 => ?_)
  refine J_mono (d_cast C F hM276 rfl (jd jdt_Mo_init_21 28 rfl)) ?_
  refine J_bind (fun M277 hM277 => ?_)
  refine J_mono (d_put (Cl := "SluicePitModel") (T := jT12) (Y := jY12) (N := 100) C F hM277 (by decide) rfl jin12 jY12_ok jnm12 (by decide) jw_1254 rfl (Or.inr ⟨rfl, hname, rfl⟩) rfl rfl (jd jdt_Mo_init_21 29 rfl)) ?_
  refine J_mono (w_aload_n C (jd jdt_Mo_init_21 30 rfl) rfl) ?_
  refine J_mono (w_sipush_1700 C (jd jdt_Mo_init_21 31 rfl)) ?_
  refine J_bind (fun M278 hM278 => ?_)
  refine J_mono (d_newa (at_ := .int) C F hM278 jw_45 rfl (Or.inl ⟨rfl, rfl, rfl⟩) (by decide) (by decide) (by decide) (Nat.le_trans (Nat.le_of_ble_eq_true rfl : 60 ≤ 63) hRc) (Nat.le_trans (Nat.le_of_ble_eq_true rfl : 15822 ≤ 19711) hRs) (jd jdt_Mo_init_21 32 rfl)) ?_
  refine J_bind (fun M279 hM279 => ?_)
  refine J_mono (d_put (Cl := "SluicePitModel") (T := jT12) (Y := jY12) (N := 100) C F hM279 (by decide) rfl jin12 jY12_ok jnm12 (by decide) jw_1255 rfl (Or.inr ⟨rfl, hname, rfl⟩) rfl rfl (jd jdt_Mo_init_21 33 rfl)) ?_
  refine J_mono (w_aload_n C (jd jdt_Mo_init_21 34 rfl) rfl) ?_
  refine J_mono (w_sipush_1700 C (jd jdt_Mo_init_21 35 rfl)) ?_
  refine J_bind (fun M280 hM280 => ?_)
  refine J_mono (d_newa (at_ := .int) C F hM280 jw_45 rfl (Or.inl ⟨rfl, rfl, rfl⟩) (by decide) (by decide) (by decide) (Nat.le_trans (Nat.le_of_ble_eq_true rfl : 61 ≤ 63) hRc) (Nat.le_trans (Nat.le_of_ble_eq_true rfl : 17522 ≤ 19711) hRs) (jd jdt_Mo_init_21 36 rfl)) ?_
  refine J_bind (fun M281 hM281 => ?_)
  refine J_mono (d_put (Cl := "SluicePitModel") (T := jT12) (Y := jY12) (N := 100) C F hM281 (by decide) rfl jin12 jY12_ok jnm12 (by decide) jw_1257 rfl (Or.inr ⟨rfl, hname, rfl⟩) rfl rfl (jd jdt_Mo_init_21 37 rfl)) ?_
  refine J_mono (w_aload_n C (jd jdt_Mo_init_21 38 rfl) rfl) ?_
  refine J_mono (w_sipush_1700 C (jd jdt_Mo_init_21 39 rfl)) ?_
  refine J_bind (fun M282 hM282 => ?_)
  refine J_mono (d_newa (at_ := .long) C F hM282 jw_1469 rfl (Or.inr (Or.inl ⟨rfl, rfl, rfl⟩)) (by decide) (by decide) (by decide) (Nat.le_trans (Nat.le_of_ble_eq_true rfl : 62 ≤ 63) hRc) (Nat.le_trans (Nat.le_of_ble_eq_true rfl : 19222 ≤ 19711) hRs) (jd jdt_Mo_init_22 0 rfl)) ?_
  refine J_bind (fun M283 hM283 => ?_)
  refine J_mono (d_put (Cl := "SluicePitModel") (T := jT12) (Y := jY12) (N := 100) C F hM283 (by decide) rfl jin12 jY12_ok jnm12 (by decide) jw_1261 rfl (Or.inr ⟨rfl, hname, rfl⟩) rfl rfl (jd jdt_Mo_init_22 1 rfl)) ?_
  refine J_mono (w_aload_n C (jd jdt_Mo_init_22 2 rfl) rfl) ?_
  refine J_mono (w_sipush_489 C (jd jdt_Mo_init_22 3 rfl)) ?_
  refine J_bind (fun M284 hM284 => ?_)
  refine J_mono (d_newa (at_ := .int) C F hM284 jw_45 rfl (Or.inl ⟨rfl, rfl, rfl⟩) (by decide) (by decide) (by decide) (Nat.le_trans (Nat.le_of_ble_eq_true rfl : 63 ≤ 63) hRc) (Nat.le_trans (Nat.le_of_ble_eq_true rfl : 19711 ≤ 19711) hRs) (jd jdt_Mo_init_22 4 rfl)) ?_
  refine J_bind (fun M285 hM285 => ?_)
  refine J_mono (d_put (Cl := "SluicePitModel") (T := jT12) (Y := jY12) (N := 100) C F hM285 (by decide) rfl jin12 jY12_ok jnm12 (by decide) jw_1265 rfl (Or.inr ⟨rfl, hname, rfl⟩) rfl rfl (jd jdt_Mo_init_22 5 rfl)) ?_
  exact J_some (fun hx => hR M285 hx _ _ (jd jdt_Mo_init_22 6 rfl))
end
set_option maxRecDepth 100000 in
theorem CD_Mo_init (l : Launch) (G : JG) (F : jF G = true) (a0 : Nat) (M : DM) {M' : DM} (hf : fd_Mo_init a0 M = some M') : jMet l jy_Mo_init jb_Mo_init 1 none 1 63 19711 G [.ref a0] M.length (dce G M) none M'.length (dce G M') :=
  j_met jo_Mo_init (by decide) (Nat.le_of_ble_eq_true rfl) (fun p e s m args below meth c C hr hm => KD_Mo_init C F (Nat.le_refl _) hm (Nat.le_refl _) (Nat.le_refl _) a0 M (fun t => t = M') (fun M' hX pc ls hd => by cases hX; exact w_vret C hr hd) _ hf rfl)
