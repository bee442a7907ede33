/-! printed by wip/l/genlaw.py: the law, case by case -/
theorem hm_L : ∀ pc i, z_at zt_L_law pc = some i → TLw 341 pc = some i := fun pc i hi => (if_pos rfl).trans hi
def lStp (D : zD) (h : zH) (i : Int) (pc : Nat) : Prop := ∃ h', lZ D h' ∧ fR h' ∧ ∀ zr, zRun D TLw 615 341 18 (h', Lv (i + 6), []) zr → zRun D TLw 615 341 pc (h, Lv i, []) zr
theorem lc_181 {D : zD} (hD : ∀ i, -2147483648 ≤ D.2 i ∧ D.2 i ≤ 2147483647) {h : zH} (hZ : lZ D h) {bs : List zV} (hb : lTy [] bs) : ∃ h1 z, zRun D TLw 614 181 0 (h, zargs 0 ((2, 0) :: bs), []) (h1, some (0, z)) ∧ lZ D h1 ∧ aFr lM_181 h h1 := lCallZ hD lck_181 hZ hb
theorem lc_315 {D : zD} (hD : ∀ i, -2147483648 ≤ D.2 i ∧ D.2 i ≤ 2147483647) {h : zH} (hZ : lZ D h) {bs : List zV} (hb : lTy [] bs) : ∃ h1 z, zRun D TLw 614 315 0 (h, zargs 0 ((2, 121) :: bs), []) (h1, some (0, z)) ∧ lZ D h1 ∧ aFr lM_315 h h1 := lCallZ hD lck_315 hZ hb
theorem lc_187 {D : zD} (hD : ∀ i, -2147483648 ≤ D.2 i ∧ D.2 i ≤ 2147483647) {h : zH} (hZ : lZ D h) {bs : List zV} (hb : lTy [] bs) : ∃ h1 z, zRun D TLw 614 187 0 (h, zargs 0 ((2, 0) :: bs), []) (h1, some (1, z)) ∧ lZ D h1 ∧ aFr lM_187 h h1 := lCallZ hD lck_187 hZ hb
theorem lc_328 {D : zD} (hD : ∀ i, -2147483648 ≤ D.2 i ∧ D.2 i ≤ 2147483647) {h : zH} (hZ : lZ D h) {bs : List zV} (hb : lTy [] bs) : ∃ h1 z, zRun D TLw 614 328 0 (h, zargs 0 ((2, 121) :: bs), []) (h1, some (1, z)) ∧ lZ D h1 ∧ aFr lM_328 h h1 := lCallZ hD lck_328 hZ hb
theorem lc_147 {D : zD} (hD : ∀ i, -2147483648 ≤ D.2 i ∧ D.2 i ≤ 2147483647) {h : zH} (hZ : lZ D h) {bs : List zV} (hb : lTy [] bs) : ∃ h1 z, zRun D TLw 614 147 0 (h, zargs 0 ((2, 0) :: bs), []) (h1, some (1, z)) ∧ lZ D h1 ∧ aFr lM_147 h h1 := lCallZ hD lck_147 hZ hb
theorem lc_204 {D : zD} (hD : ∀ i, -2147483648 ≤ D.2 i ∧ D.2 i ≤ 2147483647) {h : zH} (hZ : lZ D h) {bs : List zV} (hb : lTy [] bs) : ∃ h1 z, zRun D TLw 614 204 0 (h, zargs 0 ((2, 121) :: bs), []) (h1, some (1, z)) ∧ lZ D h1 ∧ aFr lM_204 h h1 := lCallZ hD lck_204 hZ hb
theorem lc_188 {D : zD} (hD : ∀ i, -2147483648 ≤ D.2 i ∧ D.2 i ≤ 2147483647) {h : zH} (hZ : lZ D h) {bs : List zV} (hb : lTy [0, 0, 0] bs) : ∃ h1 z, zRun D TLw 614 188 0 (h, zargs 0 ((2, 0) :: bs), []) (h1, some (0, z)) ∧ lZ D h1 ∧ aFr lM_188 h h1 := lCallZ hD lck_188 hZ hb
theorem lc_329 {D : zD} (hD : ∀ i, -2147483648 ≤ D.2 i ∧ D.2 i ≤ 2147483647) {h : zH} (hZ : lZ D h) {bs : List zV} (hb : lTy [0, 0, 0] bs) : ∃ h1 z, zRun D TLw 614 329 0 (h, zargs 0 ((2, 121) :: bs), []) (h1, some (0, z)) ∧ lZ D h1 ∧ aFr lM_329 h h1 := lCallZ hD lck_329 hZ hb
theorem lc_195 {D : zD} (hD : ∀ i, -2147483648 ≤ D.2 i ∧ D.2 i ≤ 2147483647) {h : zH} (hZ : lZ D h) {bs : List zV} (hb : lTy [0, 0, 1] bs) : ∃ h1 z, zRun D TLw 614 195 0 (h, zargs 0 ((2, 0) :: bs), []) (h1, some (0, z)) ∧ lZ D h1 ∧ aFr lM_195 h h1 := lCallZ hD lck_195 hZ hb
theorem lc_339 {D : zD} (hD : ∀ i, -2147483648 ≤ D.2 i ∧ D.2 i ≤ 2147483647) {h : zH} (hZ : lZ D h) {bs : List zV} (hb : lTy [0, 0, 1] bs) : ∃ h1 z, zRun D TLw 614 339 0 (h, zargs 0 ((2, 121) :: bs), []) (h1, some (0, z)) ∧ lZ D h1 ∧ aFr lM_339 h h1 := lCallZ hD lck_339 hZ hb
theorem lc_175 {D : zD} (hD : ∀ i, -2147483648 ≤ D.2 i ∧ D.2 i ≤ 2147483647) {h : zH} (hZ : lZ D h) {bs : List zV} (hb : lTy [0, 0] bs) : ∃ h1 z, zRun D TLw 614 175 0 (h, zargs 0 ((2, 0) :: bs), []) (h1, some (1, z)) ∧ lZ D h1 ∧ aFr lM_175 h h1 := lCallZ hD lck_175 hZ hb
theorem lc_294 {D : zD} (hD : ∀ i, -2147483648 ≤ D.2 i ∧ D.2 i ≤ 2147483647) {h : zH} (hZ : lZ D h) {bs : List zV} (hb : lTy [0, 0] bs) : ∃ h1 z, zRun D TLw 614 294 0 (h, zargs 0 ((2, 121) :: bs), []) (h1, some (1, z)) ∧ lZ D h1 ∧ aFr lM_294 h h1 := lCallZ hD lck_294 hZ hb
theorem lc_172 {D : zD} (hD : ∀ i, -2147483648 ≤ D.2 i ∧ D.2 i ≤ 2147483647) {h : zH} (hZ : lZ D h) {bs : List zV} (hb : lTy [0, 0, 0, 0, 0] bs) : ∃ h1 z, zRun D TLw 614 172 0 (h, zargs 0 ((2, 0) :: bs), []) (h1, some (0, z)) ∧ lZ D h1 ∧ aFr lM_172 h h1 := lCallZ hD lck_172 hZ hb
theorem lc_291 {D : zD} (hD : ∀ i, -2147483648 ≤ D.2 i ∧ D.2 i ≤ 2147483647) {h : zH} (hZ : lZ D h) {bs : List zV} (hb : lTy [0, 0, 0, 0, 0] bs) : ∃ h1 z, zRun D TLw 614 291 0 (h, zargs 0 ((2, 121) :: bs), []) (h1, some (0, z)) ∧ lZ D h1 ∧ aFr lM_291 h h1 := lCallZ hD lck_291 hZ hb
theorem lc_155 {D : zD} (hD : ∀ i, -2147483648 ≤ D.2 i ∧ D.2 i ≤ 2147483647) {h : zH} (hZ : lZ D h) {bs : List zV} (hb : lTy [0, 0, 0, 0, 0] bs) : ∃ h1 z, zRun D TLw 614 155 0 (h, zargs 0 ((2, 0) :: bs), []) (h1, some (0, z)) ∧ lZ D h1 ∧ aFr lM_155 h h1 := lCallZ hD lck_155 hZ hb
theorem lc_227 {D : zD} (hD : ∀ i, -2147483648 ≤ D.2 i ∧ D.2 i ≤ 2147483647) {h : zH} (hZ : lZ D h) {bs : List zV} (hb : lTy [0, 0, 0, 0, 0] bs) : ∃ h1 z, zRun D TLw 614 227 0 (h, zargs 0 ((2, 121) :: bs), []) (h1, some (0, z)) ∧ lZ D h1 ∧ aFr lM_227 h h1 := lCallZ hD lck_227 hZ hb
theorem lc_162 {D : zD} (hD : ∀ i, -2147483648 ≤ D.2 i ∧ D.2 i ≤ 2147483647) {h : zH} (hZ : lZ D h) {bs : List zV} (hb : lTy [0] bs) : ∃ h1 z, zRun D TLw 614 162 0 (h, zargs 0 ((2, 0) :: bs), []) (h1, some (0, z)) ∧ lZ D h1 ∧ aFr lM_162 h h1 := lCallZ hD lck_162 hZ hb
theorem lc_268 {D : zD} (hD : ∀ i, -2147483648 ≤ D.2 i ∧ D.2 i ≤ 2147483647) {h : zH} (hZ : lZ D h) {bs : List zV} (hb : lTy [0] bs) : ∃ h1 z, zRun D TLw 614 268 0 (h, zargs 0 ((2, 121) :: bs), []) (h1, some (0, z)) ∧ lZ D h1 ∧ aFr lM_268 h h1 := lCallZ hD lck_268 hZ hb
theorem lc_170 {D : zD} (hD : ∀ i, -2147483648 ≤ D.2 i ∧ D.2 i ≤ 2147483647) {h : zH} (hZ : lZ D h) {bs : List zV} (hb : lTy [0] bs) : ∃ h1 z, zRun D TLw 614 170 0 (h, zargs 0 ((2, 0) :: bs), []) (h1, some (0, z)) ∧ lZ D h1 ∧ aFr lM_170 h h1 := lCallZ hD lck_170 hZ hb
theorem lc_289 {D : zD} (hD : ∀ i, -2147483648 ≤ D.2 i ∧ D.2 i ≤ 2147483647) {h : zH} (hZ : lZ D h) {bs : List zV} (hb : lTy [0] bs) : ∃ h1 z, zRun D TLw 614 289 0 (h, zargs 0 ((2, 121) :: bs), []) (h1, some (0, z)) ∧ lZ D h1 ∧ aFr lM_289 h h1 := lCallZ hD lck_289 hZ hb
theorem lc_154 {D : zD} (hD : ∀ i, -2147483648 ≤ D.2 i ∧ D.2 i ≤ 2147483647) {h : zH} (hZ : lZ D h) {bs : List zV} (hb : lTy [0] bs) : ∃ h1 z, zRun D TLw 614 154 0 (h, zargs 0 ((2, 0) :: bs), []) (h1, some (0, z)) ∧ lZ D h1 ∧ aFr lM_154 h h1 := lCallZ hD lck_154 hZ hb
theorem lc_226 {D : zD} (hD : ∀ i, -2147483648 ≤ D.2 i ∧ D.2 i ≤ 2147483647) {h : zH} (hZ : lZ D h) {bs : List zV} (hb : lTy [0] bs) : ∃ h1 z, zRun D TLw 614 226 0 (h, zargs 0 ((2, 121) :: bs), []) (h1, some (0, z)) ∧ lZ D h1 ∧ aFr lM_226 h h1 := lCallZ hD lck_226 hZ hb
theorem lc_163 {D : zD} (hD : ∀ i, -2147483648 ≤ D.2 i ∧ D.2 i ≤ 2147483647) {h : zH} (hZ : lZ D h) {bs : List zV} (hb : lTy [0] bs) : ∃ h1 z, zRun D TLw 614 163 0 (h, zargs 0 ((2, 0) :: bs), []) (h1, some (0, z)) ∧ lZ D h1 ∧ aFr lM_163 h h1 := lCallZ hD lck_163 hZ hb
theorem lc_273 {D : zD} (hD : ∀ i, -2147483648 ≤ D.2 i ∧ D.2 i ≤ 2147483647) {h : zH} (hZ : lZ D h) {bs : List zV} (hb : lTy [0] bs) : ∃ h1 z, zRun D TLw 614 273 0 (h, zargs 0 ((2, 121) :: bs), []) (h1, some (0, z)) ∧ lZ D h1 ∧ aFr lM_273 h h1 := lCallZ hD lck_273 hZ hb
theorem lc_156 {D : zD} (hD : ∀ i, -2147483648 ≤ D.2 i ∧ D.2 i ≤ 2147483647) {h : zH} (hZ : lZ D h) {bs : List zV} (hb : lTy [0, 0, 0] bs) : ∃ h1 z, zRun D TLw 614 156 0 (h, zargs 0 ((2, 0) :: bs), []) (h1, some (0, z)) ∧ lZ D h1 ∧ aFr lM_156 h h1 := lCallZ hD lck_156 hZ hb
theorem lc_233 {D : zD} (hD : ∀ i, -2147483648 ≤ D.2 i ∧ D.2 i ≤ 2147483647) {h : zH} (hZ : lZ D h) {bs : List zV} (hb : lTy [0, 0, 0] bs) : ∃ h1 z, zRun D TLw 614 233 0 (h, zargs 0 ((2, 121) :: bs), []) (h1, some (0, z)) ∧ lZ D h1 ∧ aFr lM_233 h h1 := lCallZ hD lck_233 hZ hb
theorem lc_148 {D : zD} (hD : ∀ i, -2147483648 ≤ D.2 i ∧ D.2 i ≤ 2147483647) {h : zH} (hZ : lZ D h) {bs : List zV} (hb : lTy [0, 0, 0] bs) : ∃ h1 z, zRun D TLw 614 148 0 (h, zargs 0 ((2, 0) :: bs), []) (h1, some (0, z)) ∧ lZ D h1 ∧ aFr lM_148 h h1 := lCallZ hD lck_148 hZ hb
theorem lc_205 {D : zD} (hD : ∀ i, -2147483648 ≤ D.2 i ∧ D.2 i ≤ 2147483647) {h : zH} (hZ : lZ D h) {bs : List zV} (hb : lTy [0, 0, 0] bs) : ∃ h1 z, zRun D TLw 614 205 0 (h, zargs 0 ((2, 121) :: bs), []) (h1, some (0, z)) ∧ lZ D h1 ∧ aFr lM_205 h h1 := lCallZ hD lck_205 hZ hb
theorem lc_180 {D : zD} (hD : ∀ i, -2147483648 ≤ D.2 i ∧ D.2 i ≤ 2147483647) {h : zH} (hZ : lZ D h) {bs : List zV} (hb : lTy [0, 0, 0] bs) : ∃ h1 z, zRun D TLw 614 180 0 (h, zargs 0 ((2, 0) :: bs), []) (h1, some (0, z)) ∧ lZ D h1 ∧ aFr lM_180 h h1 := lCallZ hD lck_180 hZ hb
theorem lc_310 {D : zD} (hD : ∀ i, -2147483648 ≤ D.2 i ∧ D.2 i ≤ 2147483647) {h : zH} (hZ : lZ D h) {bs : List zV} (hb : lTy [0, 0, 0] bs) : ∃ h1 z, zRun D TLw 614 310 0 (h, zargs 0 ((2, 121) :: bs), []) (h1, some (0, z)) ∧ lZ D h1 ∧ aFr lM_310 h h1 := lCallZ hD lck_310 hZ hb
theorem lc_151 {D : zD} (hD : ∀ i, -2147483648 ≤ D.2 i ∧ D.2 i ≤ 2147483647) {h : zH} (hZ : lZ D h) {bs : List zV} (hb : lTy [0, 0] bs) : ∃ h1 z, zRun D TLw 614 151 0 (h, zargs 0 ((2, 0) :: bs), []) (h1, some (0, z)) ∧ lZ D h1 ∧ aFr lM_151 h h1 := lCallZ hD lck_151 hZ hb
theorem lc_209 {D : zD} (hD : ∀ i, -2147483648 ≤ D.2 i ∧ D.2 i ≤ 2147483647) {h : zH} (hZ : lZ D h) {bs : List zV} (hb : lTy [0, 0] bs) : ∃ h1 z, zRun D TLw 614 209 0 (h, zargs 0 ((2, 121) :: bs), []) (h1, some (0, z)) ∧ lZ D h1 ∧ aFr lM_209 h h1 := lCallZ hD lck_209 hZ hb
theorem lc_146 {D : zD} (hD : ∀ i, -2147483648 ≤ D.2 i ∧ D.2 i ≤ 2147483647) {h : zH} (hZ : lZ D h) {bs : List zV} (hb : lTy [0, 0, 0] bs) : ∃ h1 z, zRun D TLw 614 146 0 (h, zargs 0 ((2, 0) :: bs), []) (h1, some (0, z)) ∧ lZ D h1 ∧ aFr lM_146 h h1 := lCallZ hD lck_146 hZ hb
theorem lc_202 {D : zD} (hD : ∀ i, -2147483648 ≤ D.2 i ∧ D.2 i ≤ 2147483647) {h : zH} (hZ : lZ D h) {bs : List zV} (hb : lTy [0, 0, 0] bs) : ∃ h1 z, zRun D TLw 614 202 0 (h, zargs 0 ((2, 121) :: bs), []) (h1, some (0, z)) ∧ lZ D h1 ∧ aFr lM_202 h h1 := lCallZ hD lck_202 hZ hb
theorem lc_168 {D : zD} (hD : ∀ i, -2147483648 ≤ D.2 i ∧ D.2 i ≤ 2147483647) {h : zH} (hZ : lZ D h) {bs : List zV} (hb : lTy [0, 0, 0] bs) : ∃ h1 z, zRun D TLw 614 168 0 (h, zargs 0 ((2, 0) :: bs), []) (h1, some (0, z)) ∧ lZ D h1 ∧ aFr lM_168 h h1 := lCallZ hD lck_168 hZ hb
theorem lc_279 {D : zD} (hD : ∀ i, -2147483648 ≤ D.2 i ∧ D.2 i ≤ 2147483647) {h : zH} (hZ : lZ D h) {bs : List zV} (hb : lTy [0, 0, 0] bs) : ∃ h1 z, zRun D TLw 614 279 0 (h, zargs 0 ((2, 121) :: bs), []) (h1, some (0, z)) ∧ lZ D h1 ∧ aFr lM_279 h h1 := lCallZ hD lck_279 hZ hb
theorem lc_160 {D : zD} (hD : ∀ i, -2147483648 ≤ D.2 i ∧ D.2 i ≤ 2147483647) {h : zH} (hZ : lZ D h) {bs : List zV} (hb : lTy [0, 0, 0] bs) : ∃ h1 z, zRun D TLw 614 160 0 (h, zargs 0 ((2, 0) :: bs), []) (h1, some (0, z)) ∧ lZ D h1 ∧ aFr lM_160 h h1 := lCallZ hD lck_160 hZ hb
theorem lc_239 {D : zD} (hD : ∀ i, -2147483648 ≤ D.2 i ∧ D.2 i ≤ 2147483647) {h : zH} (hZ : lZ D h) {bs : List zV} (hb : lTy [0, 0, 0] bs) : ∃ h1 z, zRun D TLw 614 239 0 (h, zargs 0 ((2, 121) :: bs), []) (h1, some (0, z)) ∧ lZ D h1 ∧ aFr lM_239 h h1 := lCallZ hD lck_239 hZ hb
theorem lc_149 {D : zD} (hD : ∀ i, -2147483648 ≤ D.2 i ∧ D.2 i ≤ 2147483647) {h : zH} (hZ : lZ D h) {bs : List zV} (hb : lTy [0, 0, 0] bs) : ∃ h1 z, zRun D TLw 614 149 0 (h, zargs 0 ((2, 0) :: bs), []) (h1, some (0, z)) ∧ lZ D h1 ∧ aFr lM_149 h h1 := lCallZ hD lck_149 hZ hb
theorem lc_208 {D : zD} (hD : ∀ i, -2147483648 ≤ D.2 i ∧ D.2 i ≤ 2147483647) {h : zH} (hZ : lZ D h) {bs : List zV} (hb : lTy [0, 0, 0] bs) : ∃ h1 z, zRun D TLw 614 208 0 (h, zargs 0 ((2, 121) :: bs), []) (h1, some (0, z)) ∧ lZ D h1 ∧ aFr lM_208 h h1 := lCallZ hD lck_208 hZ hb
theorem lc_182 {D : zD} (hD : ∀ i, -2147483648 ≤ D.2 i ∧ D.2 i ≤ 2147483647) {h : zH} (hZ : lZ D h) {bs : List zV} (hb : lTy [0, 0] bs) : ∃ h1 z, zRun D TLw 614 182 0 (h, zargs 0 ((2, 0) :: bs), []) (h1, some (0, z)) ∧ lZ D h1 ∧ aFr lM_182 h h1 := lCallZ hD lck_182 hZ hb
theorem lc_316 {D : zD} (hD : ∀ i, -2147483648 ≤ D.2 i ∧ D.2 i ≤ 2147483647) {h : zH} (hZ : lZ D h) {bs : List zV} (hb : lTy [0, 0] bs) : ∃ h1 z, zRun D TLw 614 316 0 (h, zargs 0 ((2, 121) :: bs), []) (h1, some (0, z)) ∧ lZ D h1 ∧ aFr lM_316 h h1 := lCallZ hD lck_316 hZ hb
theorem lc_190 {D : zD} (hD : ∀ i, -2147483648 ≤ D.2 i ∧ D.2 i ≤ 2147483647) {h : zH} (hZ : lZ D h) {bs : List zV} (hb : lTy [0, 0] bs) : ∃ h1 z, zRun D TLw 614 190 0 (h, zargs 0 ((2, 0) :: bs), []) (h1, some (0, z)) ∧ lZ D h1 ∧ aFr lM_190 h h1 := lCallZ hD lck_190 hZ hb
theorem lc_332 {D : zD} (hD : ∀ i, -2147483648 ≤ D.2 i ∧ D.2 i ≤ 2147483647) {h : zH} (hZ : lZ D h) {bs : List zV} (hb : lTy [0, 0] bs) : ∃ h1 z, zRun D TLw 614 332 0 (h, zargs 0 ((2, 121) :: bs), []) (h1, some (0, z)) ∧ lZ D h1 ∧ aFr lM_332 h h1 := lCallZ hD lck_332 hZ hb
theorem lc_152 {D : zD} (hD : ∀ i, -2147483648 ≤ D.2 i ∧ D.2 i ≤ 2147483647) {h : zH} (hZ : lZ D h) {bs : List zV} (hb : lTy [0, 0] bs) : ∃ h1 z, zRun D TLw 614 152 0 (h, zargs 0 ((2, 0) :: bs), []) (h1, some (0, z)) ∧ lZ D h1 ∧ aFr lM_152 h h1 := lCallZ hD lck_152 hZ hb
theorem lc_213 {D : zD} (hD : ∀ i, -2147483648 ≤ D.2 i ∧ D.2 i ≤ 2147483647) {h : zH} (hZ : lZ D h) {bs : List zV} (hb : lTy [0, 0] bs) : ∃ h1 z, zRun D TLw 614 213 0 (h, zargs 0 ((2, 121) :: bs), []) (h1, some (0, z)) ∧ lZ D h1 ∧ aFr lM_213 h h1 := lCallZ hD lck_213 hZ hb
theorem lc_159 {D : zD} (hD : ∀ i, -2147483648 ≤ D.2 i ∧ D.2 i ≤ 2147483647) {h : zH} (hZ : lZ D h) {bs : List zV} (hb : lTy [0] bs) : ∃ h1 z, zRun D TLw 614 159 0 (h, zargs 0 ((2, 0) :: bs), []) (h1, some (0, z)) ∧ lZ D h1 ∧ aFr lM_159 h h1 := lCallZ hD lck_159 hZ hb
theorem lc_238 {D : zD} (hD : ∀ i, -2147483648 ≤ D.2 i ∧ D.2 i ≤ 2147483647) {h : zH} (hZ : lZ D h) {bs : List zV} (hb : lTy [0] bs) : ∃ h1 z, zRun D TLw 614 238 0 (h, zargs 0 ((2, 121) :: bs), []) (h1, some (0, z)) ∧ lZ D h1 ∧ aFr lM_238 h h1 := lCallZ hD lck_238 hZ hb
theorem lc_191 {D : zD} (hD : ∀ i, -2147483648 ≤ D.2 i ∧ D.2 i ≤ 2147483647) {h : zH} (hZ : lZ D h) {bs : List zV} (hb : lTy [0] bs) : ∃ h1 z, zRun D TLw 614 191 0 (h, zargs 0 ((2, 0) :: bs), []) (h1, some (0, z)) ∧ lZ D h1 ∧ aFr lM_191 h h1 := lCallZ hD lck_191 hZ hb
theorem lc_334 {D : zD} (hD : ∀ i, -2147483648 ≤ D.2 i ∧ D.2 i ≤ 2147483647) {h : zH} (hZ : lZ D h) {bs : List zV} (hb : lTy [0] bs) : ∃ h1 z, zRun D TLw 614 334 0 (h, zargs 0 ((2, 121) :: bs), []) (h1, some (0, z)) ∧ lZ D h1 ∧ aFr lM_334 h h1 := lCallZ hD lck_334 hZ hb
theorem lc_192 {D : zD} (hD : ∀ i, -2147483648 ≤ D.2 i ∧ D.2 i ≤ 2147483647) {h : zH} (hZ : lZ D h) {bs : List zV} (hb : lTy [0, 0] bs) : ∃ h1 z, zRun D TLw 614 192 0 (h, zargs 0 ((2, 0) :: bs), []) (h1, some (0, z)) ∧ lZ D h1 ∧ aFr lM_192 h h1 := lCallZ hD lck_192 hZ hb
theorem lc_335 {D : zD} (hD : ∀ i, -2147483648 ≤ D.2 i ∧ D.2 i ≤ 2147483647) {h : zH} (hZ : lZ D h) {bs : List zV} (hb : lTy [0, 0] bs) : ∃ h1 z, zRun D TLw 614 335 0 (h, zargs 0 ((2, 121) :: bs), []) (h1, some (0, z)) ∧ lZ D h1 ∧ aFr lM_335 h h1 := lCallZ hD lck_335 hZ hb
theorem lc_164 {D : zD} (hD : ∀ i, -2147483648 ≤ D.2 i ∧ D.2 i ≤ 2147483647) {h : zH} (hZ : lZ D h) {bs : List zV} (hb : lTy [0] bs) : ∃ h1 z, zRun D TLw 614 164 0 (h, zargs 0 ((2, 0) :: bs), []) (h1, some (0, z)) ∧ lZ D h1 ∧ aFr lM_164 h h1 := lCallZ hD lck_164 hZ hb
theorem lc_274 {D : zD} (hD : ∀ i, -2147483648 ≤ D.2 i ∧ D.2 i ≤ 2147483647) {h : zH} (hZ : lZ D h) {bs : List zV} (hb : lTy [0] bs) : ∃ h1 z, zRun D TLw 614 274 0 (h, zargs 0 ((2, 121) :: bs), []) (h1, some (0, z)) ∧ lZ D h1 ∧ aFr lM_274 h h1 := lCallZ hD lck_274 hZ hb
theorem lc_183 {D : zD} (hD : ∀ i, -2147483648 ≤ D.2 i ∧ D.2 i ≤ 2147483647) {h : zH} (hZ : lZ D h) {bs : List zV} (hb : lTy [] bs) : ∃ h1 z, zRun D TLw 614 183 0 (h, zargs 0 ((2, 0) :: bs), []) (h1, some (0, z)) ∧ lZ D h1 ∧ aFr lM_183 h h1 := lCallZ hD lck_183 hZ hb
theorem lc_319 {D : zD} (hD : ∀ i, -2147483648 ≤ D.2 i ∧ D.2 i ≤ 2147483647) {h : zH} (hZ : lZ D h) {bs : List zV} (hb : lTy [] bs) : ∃ h1 z, zRun D TLw 614 319 0 (h, zargs 0 ((2, 121) :: bs), []) (h1, some (0, z)) ∧ lZ D h1 ∧ aFr lM_319 h h1 := lCallZ hD lck_319 hZ hb
theorem lc_189 {D : zD} (hD : ∀ i, -2147483648 ≤ D.2 i ∧ D.2 i ≤ 2147483647) {h : zH} (hZ : lZ D h) {bs : List zV} (hb : lTy [0] bs) : ∃ h1 z, zRun D TLw 614 189 0 (h, zargs 0 ((2, 0) :: bs), []) (h1, some (0, z)) ∧ lZ D h1 ∧ aFr lM_189 h h1 := lCallZ hD lck_189 hZ hb
theorem lc_331 {D : zD} (hD : ∀ i, -2147483648 ≤ D.2 i ∧ D.2 i ≤ 2147483647) {h : zH} (hZ : lZ D h) {bs : List zV} (hb : lTy [0] bs) : ∃ h1 z, zRun D TLw 614 331 0 (h, zargs 0 ((2, 121) :: bs), []) (h1, some (0, z)) ∧ lZ D h1 ∧ aFr lM_331 h h1 := lCallZ hD lck_331 hZ hb
theorem lc_145 {D : zD} (hD : ∀ i, -2147483648 ≤ D.2 i ∧ D.2 i ≤ 2147483647) {h : zH} (hZ : lZ D h) {bs : List zV} (hb : lTy [0] bs) : ∃ h1 z, zRun D TLw 614 145 0 (h, zargs 0 ((2, 0) :: bs), []) (h1, some (0, z)) ∧ lZ D h1 ∧ aFr lM_145 h h1 := lCallZ hD lck_145 hZ hb
theorem lc_201 {D : zD} (hD : ∀ i, -2147483648 ≤ D.2 i ∧ D.2 i ≤ 2147483647) {h : zH} (hZ : lZ D h) {bs : List zV} (hb : lTy [0] bs) : ∃ h1 z, zRun D TLw 614 201 0 (h, zargs 0 ((2, 121) :: bs), []) (h1, some (0, z)) ∧ lZ D h1 ∧ aFr lM_201 h h1 := lCallZ hD lck_201 hZ hb
theorem lc_158 {D : zD} (hD : ∀ i, -2147483648 ≤ D.2 i ∧ D.2 i ≤ 2147483647) {h : zH} (hZ : lZ D h) {bs : List zV} (hb : lTy [0, 0] bs) : ∃ h1 z, zRun D TLw 614 158 0 (h, zargs 0 ((2, 0) :: bs), []) (h1, some (0, z)) ∧ lZ D h1 ∧ aFr lM_158 h h1 := lCallZ hD lck_158 hZ hb
theorem lc_236 {D : zD} (hD : ∀ i, -2147483648 ≤ D.2 i ∧ D.2 i ≤ 2147483647) {h : zH} (hZ : lZ D h) {bs : List zV} (hb : lTy [0, 0] bs) : ∃ h1 z, zRun D TLw 614 236 0 (h, zargs 0 ((2, 121) :: bs), []) (h1, some (0, z)) ∧ lZ D h1 ∧ aFr lM_236 h h1 := lCallZ hD lck_236 hZ hb
theorem lc_174 {D : zD} (hD : ∀ i, -2147483648 ≤ D.2 i ∧ D.2 i ≤ 2147483647) {h : zH} (hZ : lZ D h) {bs : List zV} (hb : lTy [] bs) : ∃ h1 z, zRun D TLw 614 174 0 (h, zargs 0 ((2, 0) :: bs), []) (h1, some (0, z)) ∧ lZ D h1 ∧ aFr lM_174 h h1 := lCallZ hD lck_174 hZ hb
theorem lc_293 {D : zD} (hD : ∀ i, -2147483648 ≤ D.2 i ∧ D.2 i ≤ 2147483647) {h : zH} (hZ : lZ D h) {bs : List zV} (hb : lTy [] bs) : ∃ h1 z, zRun D TLw 614 293 0 (h, zargs 0 ((2, 121) :: bs), []) (h1, some (0, z)) ∧ lZ D h1 ∧ aFr lM_293 h h1 := lCallZ hD lck_293 hZ hb
theorem lc_179 {D : zD} (hD : ∀ i, -2147483648 ≤ D.2 i ∧ D.2 i ≤ 2147483647) {h : zH} (hZ : lZ D h) {bs : List zV} (hb : lTy [0, 0] bs) : ∃ h1 z, zRun D TLw 614 179 0 (h, zargs 0 ((2, 0) :: bs), []) (h1, some (0, z)) ∧ lZ D h1 ∧ aFr lM_179 h h1 := lCallZ hD lck_179 hZ hb
theorem lc_309 {D : zD} (hD : ∀ i, -2147483648 ≤ D.2 i ∧ D.2 i ≤ 2147483647) {h : zH} (hZ : lZ D h) {bs : List zV} (hb : lTy [0, 0] bs) : ∃ h1 z, zRun D TLw 614 309 0 (h, zargs 0 ((2, 121) :: bs), []) (h1, some (0, z)) ∧ lZ D h1 ∧ aFr lM_309 h h1 := lCallZ hD lck_309 hZ hb
theorem lc_184 {D : zD} (hD : ∀ i, -2147483648 ≤ D.2 i ∧ D.2 i ≤ 2147483647) {h : zH} (hZ : lZ D h) {bs : List zV} (hb : lTy [0, 0, 0] bs) : ∃ h1 z, zRun D TLw 614 184 0 (h, zargs 0 ((2, 0) :: bs), []) (h1, some (0, z)) ∧ lZ D h1 ∧ aFr lM_184 h h1 := lCallZ hD lck_184 hZ hb
theorem lc_321 {D : zD} (hD : ∀ i, -2147483648 ≤ D.2 i ∧ D.2 i ≤ 2147483647) {h : zH} (hZ : lZ D h) {bs : List zV} (hb : lTy [0, 0, 0] bs) : ∃ h1 z, zRun D TLw 614 321 0 (h, zargs 0 ((2, 121) :: bs), []) (h1, some (0, z)) ∧ lZ D h1 ∧ aFr lM_321 h h1 := lCallZ hD lck_321 hZ hb
theorem lc_153 {D : zD} (hD : ∀ i, -2147483648 ≤ D.2 i ∧ D.2 i ≤ 2147483647) {h : zH} (hZ : lZ D h) {bs : List zV} (hb : lTy [0] bs) : ∃ h1 z, zRun D TLw 614 153 0 (h, zargs 0 ((2, 0) :: bs), []) (h1, some (0, z)) ∧ lZ D h1 ∧ aFr lM_153 h h1 := lCallZ hD lck_153 hZ hb
theorem lc_217 {D : zD} (hD : ∀ i, -2147483648 ≤ D.2 i ∧ D.2 i ≤ 2147483647) {h : zH} (hZ : lZ D h) {bs : List zV} (hb : lTy [0] bs) : ∃ h1 z, zRun D TLw 614 217 0 (h, zargs 0 ((2, 121) :: bs), []) (h1, some (0, z)) ∧ lZ D h1 ∧ aFr lM_217 h h1 := lCallZ hD lck_217 hZ hb
theorem lc_194 {D : zD} (hD : ∀ i, -2147483648 ≤ D.2 i ∧ D.2 i ≤ 2147483647) {h : zH} (hZ : lZ D h) {bs : List zV} (hb : lTy [0, 0, 0] bs) : ∃ h1 z, zRun D TLw 614 194 0 (h, zargs 0 ((2, 0) :: bs), []) (h1, some (0, z)) ∧ lZ D h1 ∧ aFr lM_194 h h1 := lCallZ hD lck_194 hZ hb
theorem lc_337 {D : zD} (hD : ∀ i, -2147483648 ≤ D.2 i ∧ D.2 i ≤ 2147483647) {h : zH} (hZ : lZ D h) {bs : List zV} (hb : lTy [0, 0, 0] bs) : ∃ h1 z, zRun D TLw 614 337 0 (h, zargs 0 ((2, 121) :: bs), []) (h1, some (0, z)) ∧ lZ D h1 ∧ aFr lM_337 h h1 := lCallZ hD lck_337 hZ hb
theorem lc_167 {D : zD} (hD : ∀ i, -2147483648 ≤ D.2 i ∧ D.2 i ≤ 2147483647) {h : zH} (hZ : lZ D h) {bs : List zV} (hb : lTy [0, 0] bs) : ∃ h1 z, zRun D TLw 614 167 0 (h, zargs 0 ((2, 0) :: bs), []) (h1, some (0, z)) ∧ lZ D h1 ∧ aFr lM_167 h h1 := lCallZ hD lck_167 hZ hb
theorem lc_278 {D : zD} (hD : ∀ i, -2147483648 ≤ D.2 i ∧ D.2 i ≤ 2147483647) {h : zH} (hZ : lZ D h) {bs : List zV} (hb : lTy [0, 0] bs) : ∃ h1 z, zRun D TLw 614 278 0 (h, zargs 0 ((2, 121) :: bs), []) (h1, some (0, z)) ∧ lZ D h1 ∧ aFr lM_278 h h1 := lCallZ hD lck_278 hZ hb
theorem lc_186 {D : zD} (hD : ∀ i, -2147483648 ≤ D.2 i ∧ D.2 i ≤ 2147483647) {h : zH} (hZ : lZ D h) {bs : List zV} (hb : lTy [0, 0] bs) : ∃ h1 z, zRun D TLw 614 186 0 (h, zargs 0 ((2, 0) :: bs), []) (h1, some (1, z)) ∧ lZ D h1 ∧ aFr lM_186 h h1 := lCallZ hD lck_186 hZ hb
theorem lc_327 {D : zD} (hD : ∀ i, -2147483648 ≤ D.2 i ∧ D.2 i ≤ 2147483647) {h : zH} (hZ : lZ D h) {bs : List zV} (hb : lTy [0, 0] bs) : ∃ h1 z, zRun D TLw 614 327 0 (h, zargs 0 ((2, 121) :: bs), []) (h1, some (1, z)) ∧ lZ D h1 ∧ aFr lM_327 h h1 := lCallZ hD lck_327 hZ hb
theorem lc_157 {D : zD} (hD : ∀ i, -2147483648 ≤ D.2 i ∧ D.2 i ≤ 2147483647) {h : zH} (hZ : lZ D h) {bs : List zV} (hb : lTy [0, 0, 0] bs) : ∃ h1 z, zRun D TLw 614 157 0 (h, zargs 0 ((2, 0) :: bs), []) (h1, some (0, z)) ∧ lZ D h1 ∧ aFr lM_157 h h1 := lCallZ hD lck_157 hZ hb
theorem lc_235 {D : zD} (hD : ∀ i, -2147483648 ≤ D.2 i ∧ D.2 i ≤ 2147483647) {h : zH} (hZ : lZ D h) {bs : List zV} (hb : lTy [0, 0, 0] bs) : ∃ h1 z, zRun D TLw 614 235 0 (h, zargs 0 ((2, 121) :: bs), []) (h1, some (0, z)) ∧ lZ D h1 ∧ aFr lM_235 h h1 := lCallZ hD lck_235 hZ hb
theorem lc_169 {D : zD} (hD : ∀ i, -2147483648 ≤ D.2 i ∧ D.2 i ≤ 2147483647) {h : zH} (hZ : lZ D h) {bs : List zV} (hb : lTy [0, 0, 0, 0, 0] bs) : ∃ h1 z, zRun D TLw 614 169 0 (h, zargs 0 ((2, 0) :: bs), []) (h1, some (0, z)) ∧ lZ D h1 ∧ aFr lM_169 h h1 := lCallZ hD lck_169 hZ hb
theorem lc_287 {D : zD} (hD : ∀ i, -2147483648 ≤ D.2 i ∧ D.2 i ≤ 2147483647) {h : zH} (hZ : lZ D h) {bs : List zV} (hb : lTy [0, 0, 0, 0, 0] bs) : ∃ h1 z, zRun D TLw 614 287 0 (h, zargs 0 ((2, 121) :: bs), []) (h1, some (0, z)) ∧ lZ D h1 ∧ aFr lM_287 h h1 := lCallZ hD lck_287 hZ hb
theorem lc_166 {D : zD} (hD : ∀ i, -2147483648 ≤ D.2 i ∧ D.2 i ≤ 2147483647) {h : zH} (hZ : lZ D h) {bs : List zV} (hb : lTy [0, 0, 0] bs) : ∃ h1 z, zRun D TLw 614 166 0 (h, zargs 0 ((2, 0) :: bs), []) (h1, some (0, z)) ∧ lZ D h1 ∧ aFr lM_166 h h1 := lCallZ hD lck_166 hZ hb
theorem lc_277 {D : zD} (hD : ∀ i, -2147483648 ≤ D.2 i ∧ D.2 i ≤ 2147483647) {h : zH} (hZ : lZ D h) {bs : List zV} (hb : lTy [0, 0, 0] bs) : ∃ h1 z, zRun D TLw 614 277 0 (h, zargs 0 ((2, 121) :: bs), []) (h1, some (0, z)) ∧ lZ D h1 ∧ aFr lM_277 h h1 := lCallZ hD lck_277 hZ hb
theorem lc_178 {D : zD} (hD : ∀ i, -2147483648 ≤ D.2 i ∧ D.2 i ≤ 2147483647) {h : zH} (hZ : lZ D h) {bs : List zV} (hb : lTy [0] bs) : ∃ h1 z, zRun D TLw 614 178 0 (h, zargs 0 ((2, 0) :: bs), []) (h1, some (0, z)) ∧ lZ D h1 ∧ aFr lM_178 h h1 := lCallZ hD lck_178 hZ hb
theorem lc_307 {D : zD} (hD : ∀ i, -2147483648 ≤ D.2 i ∧ D.2 i ≤ 2147483647) {h : zH} (hZ : lZ D h) {bs : List zV} (hb : lTy [0] bs) : ∃ h1 z, zRun D TLw 614 307 0 (h, zargs 0 ((2, 121) :: bs), []) (h1, some (0, z)) ∧ lZ D h1 ∧ aFr lM_307 h h1 := lCallZ hD lck_307 hZ hb
theorem lc_173 {D : zD} (hD : ∀ i, -2147483648 ≤ D.2 i ∧ D.2 i ≤ 2147483647) {h : zH} (hZ : lZ D h) {bs : List zV} (hb : lTy [0] bs) : ∃ h1 z, zRun D TLw 614 173 0 (h, zargs 0 ((2, 0) :: bs), []) (h1, some (0, z)) ∧ lZ D h1 ∧ aFr lM_173 h h1 := lCallZ hD lck_173 hZ hb
theorem lc_292 {D : zD} (hD : ∀ i, -2147483648 ≤ D.2 i ∧ D.2 i ≤ 2147483647) {h : zH} (hZ : lZ D h) {bs : List zV} (hb : lTy [0] bs) : ∃ h1 z, zRun D TLw 614 292 0 (h, zargs 0 ((2, 121) :: bs), []) (h1, some (0, z)) ∧ lZ D h1 ∧ aFr lM_292 h h1 := lCallZ hD lck_292 hZ hb
theorem lc_143 {D : zD} (hD : ∀ i, -2147483648 ≤ D.2 i ∧ D.2 i ≤ 2147483647) {h : zH} (hZ : lZ D h) {bs : List zV} (hb : lTy [0, 0, 0] bs) : ∃ h1 z, zRun D TLw 614 143 0 (h, zargs 0 ((2, 0) :: bs), []) (h1, some (0, z)) ∧ lZ D h1 ∧ aFr lM_143 h h1 := lCallZ hD lck_143 hZ hb
theorem lc_196 {D : zD} (hD : ∀ i, -2147483648 ≤ D.2 i ∧ D.2 i ≤ 2147483647) {h : zH} (hZ : lZ D h) {bs : List zV} (hb : lTy [0, 0, 0] bs) : ∃ h1 z, zRun D TLw 614 196 0 (h, zargs 0 ((2, 121) :: bs), []) (h1, some (0, z)) ∧ lZ D h1 ∧ aFr lM_196 h h1 := lCallZ hD lck_196 hZ hb
theorem lc_165 {D : zD} (hD : ∀ i, -2147483648 ≤ D.2 i ∧ D.2 i ≤ 2147483647) {h : zH} (hZ : lZ D h) {bs : List zV} (hb : lTy [] bs) : ∃ h1 z, zRun D TLw 614 165 0 (h, zargs 0 ((2, 0) :: bs), []) (h1, some (0, z)) ∧ lI aG1 D Fl0 lQk h1 ∧ aFr lM_165 h h1 := lCallZ hD lck_165 hZ hb
theorem lc_276 {D : zD} (hD : ∀ i, -2147483648 ≤ D.2 i ∧ D.2 i ≤ 2147483647) {h : zH} (hZ : lI aG1 D Fl0 lQk h) {bs : List zV} (hb : lTy [] bs) : ∃ h1 z, zRun D TLw 614 276 0 (h, zargs 0 ((2, 121) :: bs), []) (h1, some (0, z)) ∧ lZ D h1 ∧ aFr lM_276 h h1 := lCallZ hD lck_276 hZ hb
theorem lc_144 {D : zD} (hD : ∀ i, -2147483648 ≤ D.2 i ∧ D.2 i ≤ 2147483647) {h : zH} (hZ : lZ D h) {bs : List zV} (hb : lTy [] bs) : ∃ h1 z, zRun D TLw 614 144 0 (h, zargs 0 ((2, 0) :: bs), []) (h1, some (0, z)) ∧ lI aG1 D Fl0 lQb h1 ∧ aFr lM_144 h h1 := lCallZ hD lck_144 hZ hb
theorem lc_199 {D : zD} (hD : ∀ i, -2147483648 ≤ D.2 i ∧ D.2 i ≤ 2147483647) {h : zH} (hZ : lI aG1 D Fl0 lQb h) {bs : List zV} (hb : lTy [] bs) : ∃ h1 z, zRun D TLw 614 199 0 (h, zargs 0 ((2, 121) :: bs), []) (h1, some (0, z)) ∧ lZ D h1 ∧ aFr lM_199 h h1 := lCallZ hD lck_199 hZ hb
theorem lw_foot {D : zD} (hD : ∀ i, -2147483648 ≤ D.2 i ∧ D.2 i ≤ 2147483647) (hN : D.1 < 2147483648) {h : zH} {i : Int} (h0 : 0 ≤ i) (h6 : i + 6 ≤ (D.1 : Int)) (hZ : lZ D h) (hR : fR h) : lStp D h i 1750 := ⟨h, hZ, hR, fun zr k => by
  refine hq_iincZ (u := 6) (hm_L _ _ rfl) rfl rfl (hq_inc (by omega) (by omega)) ?_
  rw [Lv_inc]
  refine hq_goto (hm_L _ _ rfl) ?_
  exact k⟩
theorem lw_0 {D : zD} (hD : ∀ i, -2147483648 ≤ D.2 i ∧ D.2 i ≤ 2147483647) (hN : D.1 < 2147483648) {h : zH} {i : Int} (h0 : 0 ≤ i) (h6 : i + 6 ≤ (D.1 : Int)) (hZ : lZ D h) (hR : fR h) : lStp D h i 232 := by
  obtain ⟨h1, v1, z1, hZ1, f1⟩ := lc_181 hD hZ (bs := []) trivial
  obtain ⟨h2, v2, z2, hZ2, f2⟩ := lc_315 hD hZ1 (bs := []) trivial
  have hR2 : fR h2 := fR_S.fr (M := lM_315) (by decide +kernel) f2 (fR_S.fr (M := lM_181) (by decide +kernel) f1 hR)
  refine ⟨h2, hZ2, hR2, fun zr k => ?_⟩
  refine hq_load (hm_L _ _ rfl) rfl rfl ?_
  refine hq_call (hm_L _ _ rfl) rfl ⟨Nat.le_of_ble_eq_true rfl, Nat.le_of_ble_eq_true rfl, fun _ => rfl⟩ z1 ?_
  refine hq_pop (hm_L _ _ rfl) rfl ?_
  refine hq_load (hm_L _ _ rfl) rfl rfl ?_
  refine hq_call (hm_L _ _ rfl) rfl ⟨Nat.le_of_ble_eq_true rfl, Nat.le_of_ble_eq_true rfl, fun _ => rfl⟩ z2 ?_
  refine hq_pop (hm_L _ _ rfl) rfl ?_
  refine hq_goto (hm_L _ _ rfl) ?_
  refine hq_iincZ (u := 6) (hm_L _ _ rfl) rfl rfl (hq_inc (by omega) (by omega)) ?_
  rw [Lv_inc]
  refine hq_goto (hm_L _ _ rfl) ?_
  exact k
theorem lw_1 {D : zD} (hD : ∀ i, -2147483648 ≤ D.2 i ∧ D.2 i ≤ 2147483647) (hN : D.1 < 2147483648) {h : zH} {i : Int} (h0 : 0 ≤ i) (h6 : i + 6 ≤ (D.1 : Int)) (hZ : lZ D h) (hR : fR h) : lStp D h i 245 := by
  obtain ⟨h1, v1, z1, hZ1, f1⟩ := lc_187 hD hZ (bs := []) trivial
  obtain ⟨h2, v2, z2, hZ2, f2⟩ := lc_328 hD hZ1 (bs := []) trivial
  have hR2 : fR h2 := fR_S.fr (M := lM_328) (by decide +kernel) f2 (fR_S.fr (M := lM_187) (by decide +kernel) f1 hR)
  refine ⟨h2, hZ2, hR2, fun zr k => ?_⟩
  refine hq_load (hm_L _ _ rfl) rfl rfl ?_
  refine hq_call (hm_L _ _ rfl) rfl ⟨Nat.le_of_ble_eq_true rfl, Nat.le_of_ble_eq_true rfl, fun _ => rfl⟩ z1 ?_
  refine hq_pop2 (hm_L _ _ rfl) rfl ?_
  refine hq_load (hm_L _ _ rfl) rfl rfl ?_
  refine hq_call (hm_L _ _ rfl) rfl ⟨Nat.le_of_ble_eq_true rfl, Nat.le_of_ble_eq_true rfl, fun _ => rfl⟩ z2 ?_
  refine hq_pop2 (hm_L _ _ rfl) rfl ?_
  refine hq_goto (hm_L _ _ rfl) ?_
  refine hq_iincZ (u := 6) (hm_L _ _ rfl) rfl rfl (hq_inc (by omega) (by omega)) ?_
  rw [Lv_inc]
  refine hq_goto (hm_L _ _ rfl) ?_
  exact k
theorem lw_2 {D : zD} (hD : ∀ i, -2147483648 ≤ D.2 i ∧ D.2 i ≤ 2147483647) (hN : D.1 < 2147483648) {h : zH} {i : Int} (h0 : 0 ≤ i) (h6 : i + 6 ≤ (D.1 : Int)) (hZ : lZ D h) (hR : fR h) : lStp D h i 258 := by
  obtain ⟨h1, v1, z1, hZ1, f1⟩ := lc_147 hD hZ (bs := []) trivial
  obtain ⟨h2, v2, z2, hZ2, f2⟩ := lc_204 hD hZ1 (bs := []) trivial
  have hR2 : fR h2 := fR_S.fr (M := lM_204) (by decide +kernel) f2 (fR_S.fr (M := lM_147) (by decide +kernel) f1 hR)
  refine ⟨h2, hZ2, hR2, fun zr k => ?_⟩
  refine hq_load (hm_L _ _ rfl) rfl rfl ?_
  refine hq_call (hm_L _ _ rfl) rfl ⟨Nat.le_of_ble_eq_true rfl, Nat.le_of_ble_eq_true rfl, fun _ => rfl⟩ z1 ?_
  refine hq_pop2 (hm_L _ _ rfl) rfl ?_
  refine hq_load (hm_L _ _ rfl) rfl rfl ?_
  refine hq_call (hm_L _ _ rfl) rfl ⟨Nat.le_of_ble_eq_true rfl, Nat.le_of_ble_eq_true rfl, fun _ => rfl⟩ z2 ?_
  refine hq_pop2 (hm_L _ _ rfl) rfl ?_
  refine hq_goto (hm_L _ _ rfl) ?_
  refine hq_iincZ (u := 6) (hm_L _ _ rfl) rfl rfl (hq_inc (by omega) (by omega)) ?_
  rw [Lv_inc]
  refine hq_goto (hm_L _ _ rfl) ?_
  exact k
theorem lw_3 {D : zD} (hD : ∀ i, -2147483648 ≤ D.2 i ∧ D.2 i ≤ 2147483647) (hN : D.1 < 2147483648) {h : zH} {i : Int} (h0 : 0 ≤ i) (h6 : i + 6 ≤ (D.1 : Int)) (hZ : lZ D h) (hR : fR h) : lStp D h i 271 := by
  obtain ⟨h1, v1, z1, hZ1, f1⟩ := lc_188 hD hZ (bs := [(0, D.2 (i + 1).toNat), (0, D.2 (i + 2).toNat), (0, D.2 (i + 3).toNat)]) ⟨⟨rfl, hD _⟩, ⟨⟨rfl, hD _⟩, ⟨⟨rfl, hD _⟩, trivial⟩⟩⟩
  obtain ⟨h2, v2, z2, hZ2, f2⟩ := lc_329 hD hZ1 (bs := [(0, D.2 (i + 1).toNat), (0, D.2 (i + 2).toNat), (0, D.2 (i + 3).toNat)]) ⟨⟨rfl, hD _⟩, ⟨⟨rfl, hD _⟩, ⟨⟨rfl, hD _⟩, trivial⟩⟩⟩
  have hR2 : fR h2 := fR_S.fr (M := lM_329) (by decide +kernel) f2 (fR_S.fr (M := lM_188) (by decide +kernel) f1 hR)
  refine ⟨h2, hZ2, hR2, fun zr k => ?_⟩
  refine hq_load (hm_L _ _ rfl) rfl rfl ?_
  refine hl_arg (c := 1) (hm_L _ _ rfl) (hm_L _ _ rfl) (hm_L _ _ rfl) (hm_L _ _ rfl) (hm_L _ _ rfl) h0 (by omega) (by omega) hN ?_
  refine hl_arg (c := 2) (hm_L _ _ rfl) (hm_L _ _ rfl) (hm_L _ _ rfl) (hm_L _ _ rfl) (hm_L _ _ rfl) h0 (by omega) (by omega) hN ?_
  refine hl_arg (c := 3) (hm_L _ _ rfl) (hm_L _ _ rfl) (hm_L _ _ rfl) (hm_L _ _ rfl) (hm_L _ _ rfl) h0 (by omega) (by omega) hN ?_
  refine hq_call (hm_L _ _ rfl) rfl ⟨Nat.le_of_ble_eq_true rfl, Nat.le_of_ble_eq_true rfl, fun _ => rfl⟩ z1 ?_
  refine hq_pop (hm_L _ _ rfl) rfl ?_
  refine hq_load (hm_L _ _ rfl) rfl rfl ?_
  refine hl_arg (c := 1) (hm_L _ _ rfl) (hm_L _ _ rfl) (hm_L _ _ rfl) (hm_L _ _ rfl) (hm_L _ _ rfl) h0 (by omega) (by omega) hN ?_
  refine hl_arg (c := 2) (hm_L _ _ rfl) (hm_L _ _ rfl) (hm_L _ _ rfl) (hm_L _ _ rfl) (hm_L _ _ rfl) h0 (by omega) (by omega) hN ?_
  refine hl_arg (c := 3) (hm_L _ _ rfl) (hm_L _ _ rfl) (hm_L _ _ rfl) (hm_L _ _ rfl) (hm_L _ _ rfl) h0 (by omega) (by omega) hN ?_
  refine hq_call (hm_L _ _ rfl) rfl ⟨Nat.le_of_ble_eq_true rfl, Nat.le_of_ble_eq_true rfl, fun _ => rfl⟩ z2 ?_
  refine hq_pop (hm_L _ _ rfl) rfl ?_
  refine hq_goto (hm_L _ _ rfl) ?_
  refine hq_iincZ (u := 6) (hm_L _ _ rfl) rfl rfl (hq_inc (by omega) (by omega)) ?_
  rw [Lv_inc]
  refine hq_goto (hm_L _ _ rfl) ?_
  exact k
theorem lw_4 {D : zD} (hD : ∀ i, -2147483648 ≤ D.2 i ∧ D.2 i ≤ 2147483647) (hN : D.1 < 2147483648) {h : zH} {i : Int} (h0 : 0 ≤ i) (h6 : i + 6 ≤ (D.1 : Int)) (hZ : lZ D h) (hR : fR h) : lStp D h i 314 := by
  obtain ⟨h1, v1, z1, hZ1, f1⟩ := lc_195 hD hZ (bs := [(0, D.2 (i + 1).toNat), (0, D.2 (i + 2).toNat), (1, lLong (D.2 (i + 3).toNat) (D.2 (i + 4).toNat))]) ⟨⟨rfl, hD _⟩, ⟨⟨rfl, hD _⟩, ⟨⟨rfl, lLong_ty⟩, trivial⟩⟩⟩
  obtain ⟨h2, v2, z2, hZ2, f2⟩ := lc_339 hD hZ1 (bs := [(0, D.2 (i + 1).toNat), (0, D.2 (i + 2).toNat), (1, lLong (D.2 (i + 3).toNat) (D.2 (i + 4).toNat))]) ⟨⟨rfl, hD _⟩, ⟨⟨rfl, hD _⟩, ⟨⟨rfl, lLong_ty⟩, trivial⟩⟩⟩
  have hR2 : fR h2 := fR_S.fr (M := lM_339) (by decide +kernel) f2 (fR_S.fr (M := lM_195) (by decide +kernel) f1 hR)
  refine ⟨h2, hZ2, hR2, fun zr k => ?_⟩
  refine hq_load (hm_L _ _ rfl) rfl rfl ?_
  refine hl_arg (c := 1) (hm_L _ _ rfl) (hm_L _ _ rfl) (hm_L _ _ rfl) (hm_L _ _ rfl) (hm_L _ _ rfl) h0 (by omega) (by omega) hN ?_
  refine hl_arg (c := 2) (hm_L _ _ rfl) (hm_L _ _ rfl) (hm_L _ _ rfl) (hm_L _ _ rfl) (hm_L _ _ rfl) h0 (by omega) (by omega) hN ?_
  refine hl_arg (c := 3) (hm_L _ _ rfl) (hm_L _ _ rfl) (hm_L _ _ rfl) (hm_L _ _ rfl) (hm_L _ _ rfl) h0 (by omega) (by omega) hN ?_
  refine hq_i2l (hm_L _ _ rfl) ?_
  refine hq_push (hm_L _ _ rfl) ?_
  refine hq_sh64 (hm_L _ _ rfl) ?_
  refine hl_arg (c := 4) (hm_L _ _ rfl) (hm_L _ _ rfl) (hm_L _ _ rfl) (hm_L _ _ rfl) (hm_L _ _ rfl) h0 (by omega) (by omega) hN ?_
  refine hq_i2l (hm_L _ _ rfl) ?_
  refine hq_push (hm_L _ _ rfl) ?_
  refine hq_bin64 (hm_L _ _ rfl) ?_
  refine hq_bin64 (hm_L _ _ rfl) ?_
  refine hq_call (hm_L _ _ rfl) rfl ⟨Nat.le_of_ble_eq_true rfl, Nat.le_of_ble_eq_true rfl, fun _ => rfl⟩ z1 ?_
  refine hq_pop (hm_L _ _ rfl) rfl ?_
  refine hq_load (hm_L _ _ rfl) rfl rfl ?_
  refine hl_arg (c := 1) (hm_L _ _ rfl) (hm_L _ _ rfl) (hm_L _ _ rfl) (hm_L _ _ rfl) (hm_L _ _ rfl) h0 (by omega) (by omega) hN ?_
  refine hl_arg (c := 2) (hm_L _ _ rfl) (hm_L _ _ rfl) (hm_L _ _ rfl) (hm_L _ _ rfl) (hm_L _ _ rfl) h0 (by omega) (by omega) hN ?_
  refine hl_arg (c := 3) (hm_L _ _ rfl) (hm_L _ _ rfl) (hm_L _ _ rfl) (hm_L _ _ rfl) (hm_L _ _ rfl) h0 (by omega) (by omega) hN ?_
  refine hq_i2l (hm_L _ _ rfl) ?_
  refine hq_push (hm_L _ _ rfl) ?_
  refine hq_sh64 (hm_L _ _ rfl) ?_
  refine hl_arg (c := 4) (hm_L _ _ rfl) (hm_L _ _ rfl) (hm_L _ _ rfl) (hm_L _ _ rfl) (hm_L _ _ rfl) h0 (by omega) (by omega) hN ?_
  refine hq_i2l (hm_L _ _ rfl) ?_
  refine hq_push (hm_L _ _ rfl) ?_
  refine hq_bin64 (hm_L _ _ rfl) ?_
  refine hq_bin64 (hm_L _ _ rfl) ?_
  refine hq_call (hm_L _ _ rfl) rfl ⟨Nat.le_of_ble_eq_true rfl, Nat.le_of_ble_eq_true rfl, fun _ => rfl⟩ z2 ?_
  refine hq_pop (hm_L _ _ rfl) rfl ?_
  refine hq_goto (hm_L _ _ rfl) ?_
  refine hq_iincZ (u := 6) (hm_L _ _ rfl) rfl rfl (hq_inc (by omega) (by omega)) ?_
  rw [Lv_inc]
  refine hq_goto (hm_L _ _ rfl) ?_
  exact k
theorem lw_5 {D : zD} (hD : ∀ i, -2147483648 ≤ D.2 i ∧ D.2 i ≤ 2147483647) (hN : D.1 < 2147483648) {h : zH} {i : Int} (h0 : 0 ≤ i) (h6 : i + 6 ≤ (D.1 : Int)) (hZ : lZ D h) (hR : fR h) : lStp D h i 387 := by
  obtain ⟨h1, v1, z1, hZ1, f1⟩ := lc_175 hD hZ (bs := [(0, D.2 (i + 1).toNat), (0, D.2 (i + 2).toNat)]) ⟨⟨rfl, hD _⟩, ⟨⟨rfl, hD _⟩, trivial⟩⟩
  obtain ⟨h2, v2, z2, hZ2, f2⟩ := lc_294 hD hZ1 (bs := [(0, D.2 (i + 1).toNat), (0, D.2 (i + 2).toNat)]) ⟨⟨rfl, hD _⟩, ⟨⟨rfl, hD _⟩, trivial⟩⟩
  have hR2 : fR h2 := fR_S.fr (M := lM_294) (by decide +kernel) f2 (fR_S.fr (M := lM_175) (by decide +kernel) f1 hR)
  refine ⟨h2, hZ2, hR2, fun zr k => ?_⟩
  refine hq_load (hm_L _ _ rfl) rfl rfl ?_
  refine hl_arg (c := 1) (hm_L _ _ rfl) (hm_L _ _ rfl) (hm_L _ _ rfl) (hm_L _ _ rfl) (hm_L _ _ rfl) h0 (by omega) (by omega) hN ?_
  refine hl_arg (c := 2) (hm_L _ _ rfl) (hm_L _ _ rfl) (hm_L _ _ rfl) (hm_L _ _ rfl) (hm_L _ _ rfl) h0 (by omega) (by omega) hN ?_
  refine hq_call (hm_L _ _ rfl) rfl ⟨Nat.le_of_ble_eq_true rfl, Nat.le_of_ble_eq_true rfl, fun _ => rfl⟩ z1 ?_
  refine hq_pop2 (hm_L _ _ rfl) rfl ?_
  refine hq_load (hm_L _ _ rfl) rfl rfl ?_
  refine hl_arg (c := 1) (hm_L _ _ rfl) (hm_L _ _ rfl) (hm_L _ _ rfl) (hm_L _ _ rfl) (hm_L _ _ rfl) h0 (by omega) (by omega) hN ?_
  refine hl_arg (c := 2) (hm_L _ _ rfl) (hm_L _ _ rfl) (hm_L _ _ rfl) (hm_L _ _ rfl) (hm_L _ _ rfl) h0 (by omega) (by omega) hN ?_
  refine hq_call (hm_L _ _ rfl) rfl ⟨Nat.le_of_ble_eq_true rfl, Nat.le_of_ble_eq_true rfl, fun _ => rfl⟩ z2 ?_
  refine hq_pop2 (hm_L _ _ rfl) rfl ?_
  refine hq_goto (hm_L _ _ rfl) ?_
  refine hq_iincZ (u := 6) (hm_L _ _ rfl) rfl rfl (hq_inc (by omega) (by omega)) ?_
  rw [Lv_inc]
  refine hq_goto (hm_L _ _ rfl) ?_
  exact k
theorem lw_6 {D : zD} (hD : ∀ i, -2147483648 ≤ D.2 i ∧ D.2 i ≤ 2147483647) (hN : D.1 < 2147483648) {h : zH} {i : Int} (h0 : 0 ≤ i) (h6 : i + 6 ≤ (D.1 : Int)) (hZ : lZ D h) (hR : fR h) : lStp D h i 420 := by
  obtain ⟨h1, v1, z1, hZ1, f1⟩ := lc_172 hD hZ (bs := [(0, D.2 (i + 1).toNat), (0, D.2 (i + 2).toNat), (0, D.2 (i + 3).toNat), (0, D.2 (i + 4).toNat), (0, D.2 (i + 5).toNat)]) ⟨⟨rfl, hD _⟩, ⟨⟨rfl, hD _⟩, ⟨⟨rfl, hD _⟩, ⟨⟨rfl, hD _⟩, ⟨⟨rfl, hD _⟩, trivial⟩⟩⟩⟩⟩
  obtain ⟨h2, v2, z2, hZ2, f2⟩ := lc_291 hD hZ1 (bs := [(0, D.2 (i + 1).toNat), (0, D.2 (i + 2).toNat), (0, D.2 (i + 3).toNat), (0, D.2 (i + 4).toNat), (0, D.2 (i + 5).toNat)]) ⟨⟨rfl, hD _⟩, ⟨⟨rfl, hD _⟩, ⟨⟨rfl, hD _⟩, ⟨⟨rfl, hD _⟩, ⟨⟨rfl, hD _⟩, trivial⟩⟩⟩⟩⟩
  have hR2 : fR h2 := fR_S.fr (M := lM_291) (by decide +kernel) f2 (fR_S.fr (M := lM_172) (by decide +kernel) f1 hR)
  refine ⟨h2, hZ2, hR2, fun zr k => ?_⟩
  refine hq_load (hm_L _ _ rfl) rfl rfl ?_
  refine hl_arg (c := 1) (hm_L _ _ rfl) (hm_L _ _ rfl) (hm_L _ _ rfl) (hm_L _ _ rfl) (hm_L _ _ rfl) h0 (by omega) (by omega) hN ?_
  refine hl_arg (c := 2) (hm_L _ _ rfl) (hm_L _ _ rfl) (hm_L _ _ rfl) (hm_L _ _ rfl) (hm_L _ _ rfl) h0 (by omega) (by omega) hN ?_
  refine hl_arg (c := 3) (hm_L _ _ rfl) (hm_L _ _ rfl) (hm_L _ _ rfl) (hm_L _ _ rfl) (hm_L _ _ rfl) h0 (by omega) (by omega) hN ?_
  refine hl_arg (c := 4) (hm_L _ _ rfl) (hm_L _ _ rfl) (hm_L _ _ rfl) (hm_L _ _ rfl) (hm_L _ _ rfl) h0 (by omega) (by omega) hN ?_
  refine hl_arg (c := 5) (hm_L _ _ rfl) (hm_L _ _ rfl) (hm_L _ _ rfl) (hm_L _ _ rfl) (hm_L _ _ rfl) h0 (by omega) (by omega) hN ?_
  refine hq_call (hm_L _ _ rfl) rfl ⟨Nat.le_of_ble_eq_true rfl, Nat.le_of_ble_eq_true rfl, fun _ => rfl⟩ z1 ?_
  refine hq_pop (hm_L _ _ rfl) rfl ?_
  refine hq_load (hm_L _ _ rfl) rfl rfl ?_
  refine hl_arg (c := 1) (hm_L _ _ rfl) (hm_L _ _ rfl) (hm_L _ _ rfl) (hm_L _ _ rfl) (hm_L _ _ rfl) h0 (by omega) (by omega) hN ?_
  refine hl_arg (c := 2) (hm_L _ _ rfl) (hm_L _ _ rfl) (hm_L _ _ rfl) (hm_L _ _ rfl) (hm_L _ _ rfl) h0 (by omega) (by omega) hN ?_
  refine hl_arg (c := 3) (hm_L _ _ rfl) (hm_L _ _ rfl) (hm_L _ _ rfl) (hm_L _ _ rfl) (hm_L _ _ rfl) h0 (by omega) (by omega) hN ?_
  refine hl_arg (c := 4) (hm_L _ _ rfl) (hm_L _ _ rfl) (hm_L _ _ rfl) (hm_L _ _ rfl) (hm_L _ _ rfl) h0 (by omega) (by omega) hN ?_
  refine hl_arg (c := 5) (hm_L _ _ rfl) (hm_L _ _ rfl) (hm_L _ _ rfl) (hm_L _ _ rfl) (hm_L _ _ rfl) h0 (by omega) (by omega) hN ?_
  refine hq_call (hm_L _ _ rfl) rfl ⟨Nat.le_of_ble_eq_true rfl, Nat.le_of_ble_eq_true rfl, fun _ => rfl⟩ z2 ?_
  refine hq_pop (hm_L _ _ rfl) rfl ?_
  refine hq_goto (hm_L _ _ rfl) ?_
  refine hq_iincZ (u := 6) (hm_L _ _ rfl) rfl rfl (hq_inc (by omega) (by omega)) ?_
  rw [Lv_inc]
  refine hq_goto (hm_L _ _ rfl) ?_
  exact k
theorem lw_7 {D : zD} (hD : ∀ i, -2147483648 ≤ D.2 i ∧ D.2 i ≤ 2147483647) (hN : D.1 < 2147483648) {h : zH} {i : Int} (h0 : 0 ≤ i) (h6 : i + 6 ≤ (D.1 : Int)) (hZ : lZ D h) (hR : fR h) : lStp D h i 483 := by
  obtain ⟨h1, v1, z1, hZ1, f1⟩ := lc_155 hD hZ (bs := [(0, D.2 (i + 1).toNat), (0, D.2 (i + 2).toNat), (0, D.2 (i + 3).toNat), (0, D.2 (i + 4).toNat), (0, D.2 (i + 5).toNat)]) ⟨⟨rfl, hD _⟩, ⟨⟨rfl, hD _⟩, ⟨⟨rfl, hD _⟩, ⟨⟨rfl, hD _⟩, ⟨⟨rfl, hD _⟩, trivial⟩⟩⟩⟩⟩
  obtain ⟨h2, v2, z2, hZ2, f2⟩ := lc_227 hD hZ1 (bs := [(0, D.2 (i + 1).toNat), (0, D.2 (i + 2).toNat), (0, D.2 (i + 3).toNat), (0, D.2 (i + 4).toNat), (0, D.2 (i + 5).toNat)]) ⟨⟨rfl, hD _⟩, ⟨⟨rfl, hD _⟩, ⟨⟨rfl, hD _⟩, ⟨⟨rfl, hD _⟩, ⟨⟨rfl, hD _⟩, trivial⟩⟩⟩⟩⟩
  have hR2 : fR h2 := (fRk_feed hD hZ hZ1 hR z1 f1 z2 f2).1
  refine ⟨h2, hZ2, hR2, fun zr k => ?_⟩
  refine hq_load (hm_L _ _ rfl) rfl rfl ?_
  refine hl_arg (c := 1) (hm_L _ _ rfl) (hm_L _ _ rfl) (hm_L _ _ rfl) (hm_L _ _ rfl) (hm_L _ _ rfl) h0 (by omega) (by omega) hN ?_
  refine hl_arg (c := 2) (hm_L _ _ rfl) (hm_L _ _ rfl) (hm_L _ _ rfl) (hm_L _ _ rfl) (hm_L _ _ rfl) h0 (by omega) (by omega) hN ?_
  refine hl_arg (c := 3) (hm_L _ _ rfl) (hm_L _ _ rfl) (hm_L _ _ rfl) (hm_L _ _ rfl) (hm_L _ _ rfl) h0 (by omega) (by omega) hN ?_
  refine hl_arg (c := 4) (hm_L _ _ rfl) (hm_L _ _ rfl) (hm_L _ _ rfl) (hm_L _ _ rfl) (hm_L _ _ rfl) h0 (by omega) (by omega) hN ?_
  refine hl_arg (c := 5) (hm_L _ _ rfl) (hm_L _ _ rfl) (hm_L _ _ rfl) (hm_L _ _ rfl) (hm_L _ _ rfl) h0 (by omega) (by omega) hN ?_
  refine hq_call (hm_L _ _ rfl) rfl ⟨Nat.le_of_ble_eq_true rfl, Nat.le_of_ble_eq_true rfl, fun _ => rfl⟩ z1 ?_
  refine hq_pop (hm_L _ _ rfl) rfl ?_
  refine hq_load (hm_L _ _ rfl) rfl rfl ?_
  refine hl_arg (c := 1) (hm_L _ _ rfl) (hm_L _ _ rfl) (hm_L _ _ rfl) (hm_L _ _ rfl) (hm_L _ _ rfl) h0 (by omega) (by omega) hN ?_
  refine hl_arg (c := 2) (hm_L _ _ rfl) (hm_L _ _ rfl) (hm_L _ _ rfl) (hm_L _ _ rfl) (hm_L _ _ rfl) h0 (by omega) (by omega) hN ?_
  refine hl_arg (c := 3) (hm_L _ _ rfl) (hm_L _ _ rfl) (hm_L _ _ rfl) (hm_L _ _ rfl) (hm_L _ _ rfl) h0 (by omega) (by omega) hN ?_
  refine hl_arg (c := 4) (hm_L _ _ rfl) (hm_L _ _ rfl) (hm_L _ _ rfl) (hm_L _ _ rfl) (hm_L _ _ rfl) h0 (by omega) (by omega) hN ?_
  refine hl_arg (c := 5) (hm_L _ _ rfl) (hm_L _ _ rfl) (hm_L _ _ rfl) (hm_L _ _ rfl) (hm_L _ _ rfl) h0 (by omega) (by omega) hN ?_
  refine hq_call (hm_L _ _ rfl) rfl ⟨Nat.le_of_ble_eq_true rfl, Nat.le_of_ble_eq_true rfl, fun _ => rfl⟩ z2 ?_
  refine hq_pop (hm_L _ _ rfl) rfl ?_
  refine hq_goto (hm_L _ _ rfl) ?_
  refine hq_iincZ (u := 6) (hm_L _ _ rfl) rfl rfl (hq_inc (by omega) (by omega)) ?_
  rw [Lv_inc]
  refine hq_goto (hm_L _ _ rfl) ?_
  exact k
theorem lw_8 {D : zD} (hD : ∀ i, -2147483648 ≤ D.2 i ∧ D.2 i ≤ 2147483647) (hN : D.1 < 2147483648) {h : zH} {i : Int} (h0 : 0 ≤ i) (h6 : i + 6 ≤ (D.1 : Int)) (hZ : lZ D h) (hR : fR h) : lStp D h i 546 := by
  obtain ⟨h1, v1, z1, hZ1, f1⟩ := lc_162 hD hZ (bs := [(0, D.2 (i + 1).toNat)]) ⟨⟨rfl, hD _⟩, trivial⟩
  obtain ⟨h2, v2, z2, hZ2, f2⟩ := lc_268 hD hZ1 (bs := [(0, D.2 (i + 1).toNat)]) ⟨⟨rfl, hD _⟩, trivial⟩
  have hR2 : fR h2 := (fRk_land hD hZ hZ1 hR z1 f1 z2 f2).1
  refine ⟨h2, hZ2, hR2, fun zr k => ?_⟩
  refine hq_load (hm_L _ _ rfl) rfl rfl ?_
  refine hl_arg (c := 1) (hm_L _ _ rfl) (hm_L _ _ rfl) (hm_L _ _ rfl) (hm_L _ _ rfl) (hm_L _ _ rfl) h0 (by omega) (by omega) hN ?_
  refine hq_call (hm_L _ _ rfl) rfl ⟨Nat.le_of_ble_eq_true rfl, Nat.le_of_ble_eq_true rfl, fun _ => rfl⟩ z1 ?_
  refine hq_pop (hm_L _ _ rfl) rfl ?_
  refine hq_load (hm_L _ _ rfl) rfl rfl ?_
  refine hl_arg (c := 1) (hm_L _ _ rfl) (hm_L _ _ rfl) (hm_L _ _ rfl) (hm_L _ _ rfl) (hm_L _ _ rfl) h0 (by omega) (by omega) hN ?_
  refine hq_call (hm_L _ _ rfl) rfl ⟨Nat.le_of_ble_eq_true rfl, Nat.le_of_ble_eq_true rfl, fun _ => rfl⟩ z2 ?_
  refine hq_pop (hm_L _ _ rfl) rfl ?_
  refine hq_goto (hm_L _ _ rfl) ?_
  refine hq_iincZ (u := 6) (hm_L _ _ rfl) rfl rfl (hq_inc (by omega) (by omega)) ?_
  rw [Lv_inc]
  refine hq_goto (hm_L _ _ rfl) ?_
  exact k
theorem lw_9 {D : zD} (hD : ∀ i, -2147483648 ≤ D.2 i ∧ D.2 i ≤ 2147483647) (hN : D.1 < 2147483648) {h : zH} {i : Int} (h0 : 0 ≤ i) (h6 : i + 6 ≤ (D.1 : Int)) (hZ : lZ D h) (hR : fR h) : lStp D h i 569 := by
  obtain ⟨h1, v1, z1, hZ1, f1⟩ := lc_170 hD hZ (bs := [(0, D.2 (i + 1).toNat)]) ⟨⟨rfl, hD _⟩, trivial⟩
  obtain ⟨h2, v2, z2, hZ2, f2⟩ := lc_289 hD hZ1 (bs := [(0, D.2 (i + 1).toNat)]) ⟨⟨rfl, hD _⟩, trivial⟩
  have hR2 : fR h2 := (fRk_orders hD hZ hZ1 hR z1 f1 z2 f2).1
  refine ⟨h2, hZ2, hR2, fun zr k => ?_⟩
  refine hq_load (hm_L _ _ rfl) rfl rfl ?_
  refine hl_arg (c := 1) (hm_L _ _ rfl) (hm_L _ _ rfl) (hm_L _ _ rfl) (hm_L _ _ rfl) (hm_L _ _ rfl) h0 (by omega) (by omega) hN ?_
  refine hq_call (hm_L _ _ rfl) rfl ⟨Nat.le_of_ble_eq_true rfl, Nat.le_of_ble_eq_true rfl, fun _ => rfl⟩ z1 ?_
  refine hq_pop (hm_L _ _ rfl) rfl ?_
  refine hq_load (hm_L _ _ rfl) rfl rfl ?_
  refine hl_arg (c := 1) (hm_L _ _ rfl) (hm_L _ _ rfl) (hm_L _ _ rfl) (hm_L _ _ rfl) (hm_L _ _ rfl) h0 (by omega) (by omega) hN ?_
  refine hq_call (hm_L _ _ rfl) rfl ⟨Nat.le_of_ble_eq_true rfl, Nat.le_of_ble_eq_true rfl, fun _ => rfl⟩ z2 ?_
  refine hq_pop (hm_L _ _ rfl) rfl ?_
  refine hq_goto (hm_L _ _ rfl) ?_
  refine hq_iincZ (u := 6) (hm_L _ _ rfl) rfl rfl (hq_inc (by omega) (by omega)) ?_
  rw [Lv_inc]
  refine hq_goto (hm_L _ _ rfl) ?_
  exact k
theorem lw_10 {D : zD} (hD : ∀ i, -2147483648 ≤ D.2 i ∧ D.2 i ≤ 2147483647) (hN : D.1 < 2147483648) {h : zH} {i : Int} (h0 : 0 ≤ i) (h6 : i + 6 ≤ (D.1 : Int)) (hZ : lZ D h) (hR : fR h) : lStp D h i 592 := by
  obtain ⟨h1, v1, z1, hZ1, f1⟩ := lc_154 hD hZ (bs := [(0, D.2 (i + 1).toNat)]) ⟨⟨rfl, hD _⟩, trivial⟩
  obtain ⟨h2, v2, z2, hZ2, f2⟩ := lc_226 hD hZ1 (bs := [(0, D.2 (i + 1).toNat)]) ⟨⟨rfl, hD _⟩, trivial⟩
  have hR2 : fR h2 := fR_S.fr (M := lM_226) (by decide +kernel) f2 (fR_S.fr (M := lM_154) (by decide +kernel) f1 hR)
  refine ⟨h2, hZ2, hR2, fun zr k => ?_⟩
  refine hq_load (hm_L _ _ rfl) rfl rfl ?_
  refine hl_arg (c := 1) (hm_L _ _ rfl) (hm_L _ _ rfl) (hm_L _ _ rfl) (hm_L _ _ rfl) (hm_L _ _ rfl) h0 (by omega) (by omega) hN ?_
  refine hq_call (hm_L _ _ rfl) rfl ⟨Nat.le_of_ble_eq_true rfl, Nat.le_of_ble_eq_true rfl, fun _ => rfl⟩ z1 ?_
  refine hq_pop (hm_L _ _ rfl) rfl ?_
  refine hq_load (hm_L _ _ rfl) rfl rfl ?_
  refine hl_arg (c := 1) (hm_L _ _ rfl) (hm_L _ _ rfl) (hm_L _ _ rfl) (hm_L _ _ rfl) (hm_L _ _ rfl) h0 (by omega) (by omega) hN ?_
  refine hq_call (hm_L _ _ rfl) rfl ⟨Nat.le_of_ble_eq_true rfl, Nat.le_of_ble_eq_true rfl, fun _ => rfl⟩ z2 ?_
  refine hq_pop (hm_L _ _ rfl) rfl ?_
  refine hq_goto (hm_L _ _ rfl) ?_
  refine hq_iincZ (u := 6) (hm_L _ _ rfl) rfl rfl (hq_inc (by omega) (by omega)) ?_
  rw [Lv_inc]
  refine hq_goto (hm_L _ _ rfl) ?_
  exact k
theorem lw_11 {D : zD} (hD : ∀ i, -2147483648 ≤ D.2 i ∧ D.2 i ≤ 2147483647) (hN : D.1 < 2147483648) {h : zH} {i : Int} (h0 : 0 ≤ i) (h6 : i + 6 ≤ (D.1 : Int)) (hZ : lZ D h) (hR : fR h) : lStp D h i 615 := by
  obtain ⟨h1, v1, z1, hZ1, f1⟩ := lc_163 hD hZ (bs := [(0, D.2 (i + 1).toNat)]) ⟨⟨rfl, hD _⟩, trivial⟩
  obtain ⟨h2, v2, z2, hZ2, f2⟩ := lc_273 hD hZ1 (bs := [(0, D.2 (i + 1).toNat)]) ⟨⟨rfl, hD _⟩, trivial⟩
  have hR2 : fR h2 := fR_S.fr (M := lM_273) (by decide +kernel) f2 (fR_S.fr (M := lM_163) (by decide +kernel) f1 hR)
  refine ⟨h2, hZ2, hR2, fun zr k => ?_⟩
  refine hq_load (hm_L _ _ rfl) rfl rfl ?_
  refine hl_arg (c := 1) (hm_L _ _ rfl) (hm_L _ _ rfl) (hm_L _ _ rfl) (hm_L _ _ rfl) (hm_L _ _ rfl) h0 (by omega) (by omega) hN ?_
  refine hq_call (hm_L _ _ rfl) rfl ⟨Nat.le_of_ble_eq_true rfl, Nat.le_of_ble_eq_true rfl, fun _ => rfl⟩ z1 ?_
  refine hq_pop (hm_L _ _ rfl) rfl ?_
  refine hq_load (hm_L _ _ rfl) rfl rfl ?_
  refine hl_arg (c := 1) (hm_L _ _ rfl) (hm_L _ _ rfl) (hm_L _ _ rfl) (hm_L _ _ rfl) (hm_L _ _ rfl) h0 (by omega) (by omega) hN ?_
  refine hq_call (hm_L _ _ rfl) rfl ⟨Nat.le_of_ble_eq_true rfl, Nat.le_of_ble_eq_true rfl, fun _ => rfl⟩ z2 ?_
  refine hq_pop (hm_L _ _ rfl) rfl ?_
  refine hq_goto (hm_L _ _ rfl) ?_
  refine hq_iincZ (u := 6) (hm_L _ _ rfl) rfl rfl (hq_inc (by omega) (by omega)) ?_
  rw [Lv_inc]
  refine hq_goto (hm_L _ _ rfl) ?_
  exact k
theorem lw_12 {D : zD} (hD : ∀ i, -2147483648 ≤ D.2 i ∧ D.2 i ≤ 2147483647) (hN : D.1 < 2147483648) {h : zH} {i : Int} (h0 : 0 ≤ i) (h6 : i + 6 ≤ (D.1 : Int)) (hZ : lZ D h) (hR : fR h) : lStp D h i 638 := by
  obtain ⟨h1, v1, z1, hZ1, f1⟩ := lc_156 hD hZ (bs := [(0, D.2 (i + 1).toNat), (0, D.2 (i + 2).toNat), (0, D.2 (i + 3).toNat)]) ⟨⟨rfl, hD _⟩, ⟨⟨rfl, hD _⟩, ⟨⟨rfl, hD _⟩, trivial⟩⟩⟩
  obtain ⟨h2, v2, z2, hZ2, f2⟩ := lc_233 hD hZ1 (bs := [(0, D.2 (i + 1).toNat), (0, D.2 (i + 2).toNat), (0, D.2 (i + 3).toNat)]) ⟨⟨rfl, hD _⟩, ⟨⟨rfl, hD _⟩, ⟨⟨rfl, hD _⟩, trivial⟩⟩⟩
  have hR2 : fR h2 := fR_S.fr (M := lM_233) (by decide +kernel) f2 (fR_S.fr (M := lM_156) (by decide +kernel) f1 hR)
  refine ⟨h2, hZ2, hR2, fun zr k => ?_⟩
  refine hq_load (hm_L _ _ rfl) rfl rfl ?_
  refine hl_arg (c := 1) (hm_L _ _ rfl) (hm_L _ _ rfl) (hm_L _ _ rfl) (hm_L _ _ rfl) (hm_L _ _ rfl) h0 (by omega) (by omega) hN ?_
  refine hl_arg (c := 2) (hm_L _ _ rfl) (hm_L _ _ rfl) (hm_L _ _ rfl) (hm_L _ _ rfl) (hm_L _ _ rfl) h0 (by omega) (by omega) hN ?_
  refine hl_arg (c := 3) (hm_L _ _ rfl) (hm_L _ _ rfl) (hm_L _ _ rfl) (hm_L _ _ rfl) (hm_L _ _ rfl) h0 (by omega) (by omega) hN ?_
  refine hq_call (hm_L _ _ rfl) rfl ⟨Nat.le_of_ble_eq_true rfl, Nat.le_of_ble_eq_true rfl, fun _ => rfl⟩ z1 ?_
  refine hq_pop (hm_L _ _ rfl) rfl ?_
  refine hq_load (hm_L _ _ rfl) rfl rfl ?_
  refine hl_arg (c := 1) (hm_L _ _ rfl) (hm_L _ _ rfl) (hm_L _ _ rfl) (hm_L _ _ rfl) (hm_L _ _ rfl) h0 (by omega) (by omega) hN ?_
  refine hl_arg (c := 2) (hm_L _ _ rfl) (hm_L _ _ rfl) (hm_L _ _ rfl) (hm_L _ _ rfl) (hm_L _ _ rfl) h0 (by omega) (by omega) hN ?_
  refine hl_arg (c := 3) (hm_L _ _ rfl) (hm_L _ _ rfl) (hm_L _ _ rfl) (hm_L _ _ rfl) (hm_L _ _ rfl) h0 (by omega) (by omega) hN ?_
  refine hq_call (hm_L _ _ rfl) rfl ⟨Nat.le_of_ble_eq_true rfl, Nat.le_of_ble_eq_true rfl, fun _ => rfl⟩ z2 ?_
  refine hq_pop (hm_L _ _ rfl) rfl ?_
  refine hq_goto (hm_L _ _ rfl) ?_
  refine hq_iincZ (u := 6) (hm_L _ _ rfl) rfl rfl (hq_inc (by omega) (by omega)) ?_
  rw [Lv_inc]
  refine hq_goto (hm_L _ _ rfl) ?_
  exact k
theorem lw_13 {D : zD} (hD : ∀ i, -2147483648 ≤ D.2 i ∧ D.2 i ≤ 2147483647) (hN : D.1 < 2147483648) {h : zH} {i : Int} (h0 : 0 ≤ i) (h6 : i + 6 ≤ (D.1 : Int)) (hZ : lZ D h) (hR : fR h) : lStp D h i 681 := by
  obtain ⟨h1, v1, z1, hZ1, f1⟩ := lc_148 hD hZ (bs := [(0, D.2 (i + 1).toNat), (0, D.2 (i + 2).toNat), (0, D.2 (i + 3).toNat)]) ⟨⟨rfl, hD _⟩, ⟨⟨rfl, hD _⟩, ⟨⟨rfl, hD _⟩, trivial⟩⟩⟩
  obtain ⟨h2, v2, z2, hZ2, f2⟩ := lc_205 hD hZ1 (bs := [(0, D.2 (i + 1).toNat), (0, D.2 (i + 2).toNat), (0, D.2 (i + 3).toNat)]) ⟨⟨rfl, hD _⟩, ⟨⟨rfl, hD _⟩, ⟨⟨rfl, hD _⟩, trivial⟩⟩⟩
  have hR2 : fR h2 := fR_S.fr (M := lM_205) (by decide +kernel) f2 (fR_S.fr (M := lM_148) (by decide +kernel) f1 hR)
  refine ⟨h2, hZ2, hR2, fun zr k => ?_⟩
  refine hq_load (hm_L _ _ rfl) rfl rfl ?_
  refine hl_arg (c := 1) (hm_L _ _ rfl) (hm_L _ _ rfl) (hm_L _ _ rfl) (hm_L _ _ rfl) (hm_L _ _ rfl) h0 (by omega) (by omega) hN ?_
  refine hl_arg (c := 2) (hm_L _ _ rfl) (hm_L _ _ rfl) (hm_L _ _ rfl) (hm_L _ _ rfl) (hm_L _ _ rfl) h0 (by omega) (by omega) hN ?_
  refine hl_arg (c := 3) (hm_L _ _ rfl) (hm_L _ _ rfl) (hm_L _ _ rfl) (hm_L _ _ rfl) (hm_L _ _ rfl) h0 (by omega) (by omega) hN ?_
  refine hq_call (hm_L _ _ rfl) rfl ⟨Nat.le_of_ble_eq_true rfl, Nat.le_of_ble_eq_true rfl, fun _ => rfl⟩ z1 ?_
  refine hq_pop (hm_L _ _ rfl) rfl ?_
  refine hq_load (hm_L _ _ rfl) rfl rfl ?_
  refine hl_arg (c := 1) (hm_L _ _ rfl) (hm_L _ _ rfl) (hm_L _ _ rfl) (hm_L _ _ rfl) (hm_L _ _ rfl) h0 (by omega) (by omega) hN ?_
  refine hl_arg (c := 2) (hm_L _ _ rfl) (hm_L _ _ rfl) (hm_L _ _ rfl) (hm_L _ _ rfl) (hm_L _ _ rfl) h0 (by omega) (by omega) hN ?_
  refine hl_arg (c := 3) (hm_L _ _ rfl) (hm_L _ _ rfl) (hm_L _ _ rfl) (hm_L _ _ rfl) (hm_L _ _ rfl) h0 (by omega) (by omega) hN ?_
  refine hq_call (hm_L _ _ rfl) rfl ⟨Nat.le_of_ble_eq_true rfl, Nat.le_of_ble_eq_true rfl, fun _ => rfl⟩ z2 ?_
  refine hq_pop (hm_L _ _ rfl) rfl ?_
  refine hq_goto (hm_L _ _ rfl) ?_
  refine hq_iincZ (u := 6) (hm_L _ _ rfl) rfl rfl (hq_inc (by omega) (by omega)) ?_
  rw [Lv_inc]
  refine hq_goto (hm_L _ _ rfl) ?_
  exact k
theorem lw_14 {D : zD} (hD : ∀ i, -2147483648 ≤ D.2 i ∧ D.2 i ≤ 2147483647) (hN : D.1 < 2147483648) {h : zH} {i : Int} (h0 : 0 ≤ i) (h6 : i + 6 ≤ (D.1 : Int)) (hZ : lZ D h) (hR : fR h) : lStp D h i 724 := by
  obtain ⟨h1, v1, z1, hZ1, f1⟩ := lc_180 hD hZ (bs := [(0, D.2 (i + 1).toNat), (0, D.2 (i + 2).toNat), (0, D.2 (i + 3).toNat)]) ⟨⟨rfl, hD _⟩, ⟨⟨rfl, hD _⟩, ⟨⟨rfl, hD _⟩, trivial⟩⟩⟩
  obtain ⟨h2, v2, z2, hZ2, f2⟩ := lc_310 hD hZ1 (bs := [(0, D.2 (i + 1).toNat), (0, D.2 (i + 2).toNat), (0, D.2 (i + 3).toNat)]) ⟨⟨rfl, hD _⟩, ⟨⟨rfl, hD _⟩, ⟨⟨rfl, hD _⟩, trivial⟩⟩⟩
  have hR2 : fR h2 := fR_S.fr (M := lM_310) (by decide +kernel) f2 (fR_S.fr (M := lM_180) (by decide +kernel) f1 hR)
  refine ⟨h2, hZ2, hR2, fun zr k => ?_⟩
  refine hq_load (hm_L _ _ rfl) rfl rfl ?_
  refine hl_arg (c := 1) (hm_L _ _ rfl) (hm_L _ _ rfl) (hm_L _ _ rfl) (hm_L _ _ rfl) (hm_L _ _ rfl) h0 (by omega) (by omega) hN ?_
  refine hl_arg (c := 2) (hm_L _ _ rfl) (hm_L _ _ rfl) (hm_L _ _ rfl) (hm_L _ _ rfl) (hm_L _ _ rfl) h0 (by omega) (by omega) hN ?_
  refine hl_arg (c := 3) (hm_L _ _ rfl) (hm_L _ _ rfl) (hm_L _ _ rfl) (hm_L _ _ rfl) (hm_L _ _ rfl) h0 (by omega) (by omega) hN ?_
  refine hq_call (hm_L _ _ rfl) rfl ⟨Nat.le_of_ble_eq_true rfl, Nat.le_of_ble_eq_true rfl, fun _ => rfl⟩ z1 ?_
  refine hq_pop (hm_L _ _ rfl) rfl ?_
  refine hq_load (hm_L _ _ rfl) rfl rfl ?_
  refine hl_arg (c := 1) (hm_L _ _ rfl) (hm_L _ _ rfl) (hm_L _ _ rfl) (hm_L _ _ rfl) (hm_L _ _ rfl) h0 (by omega) (by omega) hN ?_
  refine hl_arg (c := 2) (hm_L _ _ rfl) (hm_L _ _ rfl) (hm_L _ _ rfl) (hm_L _ _ rfl) (hm_L _ _ rfl) h0 (by omega) (by omega) hN ?_
  refine hl_arg (c := 3) (hm_L _ _ rfl) (hm_L _ _ rfl) (hm_L _ _ rfl) (hm_L _ _ rfl) (hm_L _ _ rfl) h0 (by omega) (by omega) hN ?_
  refine hq_call (hm_L _ _ rfl) rfl ⟨Nat.le_of_ble_eq_true rfl, Nat.le_of_ble_eq_true rfl, fun _ => rfl⟩ z2 ?_
  refine hq_pop (hm_L _ _ rfl) rfl ?_
  refine hq_goto (hm_L _ _ rfl) ?_
  refine hq_iincZ (u := 6) (hm_L _ _ rfl) rfl rfl (hq_inc (by omega) (by omega)) ?_
  rw [Lv_inc]
  refine hq_goto (hm_L _ _ rfl) ?_
  exact k
theorem lw_15 {D : zD} (hD : ∀ i, -2147483648 ≤ D.2 i ∧ D.2 i ≤ 2147483647) (hN : D.1 < 2147483648) {h : zH} {i : Int} (h0 : 0 ≤ i) (h6 : i + 6 ≤ (D.1 : Int)) (hZ : lZ D h) (hR : fR h) : lStp D h i 767 := by
  obtain ⟨h1, v1, z1, hZ1, f1⟩ := lc_151 hD hZ (bs := [(0, D.2 (i + 1).toNat), (0, D.2 (i + 2).toNat)]) ⟨⟨rfl, hD _⟩, ⟨⟨rfl, hD _⟩, trivial⟩⟩
  obtain ⟨h2, v2, z2, hZ2, f2⟩ := lc_209 hD hZ1 (bs := [(0, D.2 (i + 1).toNat), (0, D.2 (i + 2).toNat)]) ⟨⟨rfl, hD _⟩, ⟨⟨rfl, hD _⟩, trivial⟩⟩
  have hR2 : fR h2 := fR_S.fr (M := lM_209) (by decide +kernel) f2 (fR_S.fr (M := lM_151) (by decide +kernel) f1 hR)
  refine ⟨h2, hZ2, hR2, fun zr k => ?_⟩
  refine hq_load (hm_L _ _ rfl) rfl rfl ?_
  refine hl_arg (c := 1) (hm_L _ _ rfl) (hm_L _ _ rfl) (hm_L _ _ rfl) (hm_L _ _ rfl) (hm_L _ _ rfl) h0 (by omega) (by omega) hN ?_
  refine hl_arg (c := 2) (hm_L _ _ rfl) (hm_L _ _ rfl) (hm_L _ _ rfl) (hm_L _ _ rfl) (hm_L _ _ rfl) h0 (by omega) (by omega) hN ?_
  refine hq_call (hm_L _ _ rfl) rfl ⟨Nat.le_of_ble_eq_true rfl, Nat.le_of_ble_eq_true rfl, fun _ => rfl⟩ z1 ?_
  refine hq_pop (hm_L _ _ rfl) rfl ?_
  refine hq_load (hm_L _ _ rfl) rfl rfl ?_
  refine hl_arg (c := 1) (hm_L _ _ rfl) (hm_L _ _ rfl) (hm_L _ _ rfl) (hm_L _ _ rfl) (hm_L _ _ rfl) h0 (by omega) (by omega) hN ?_
  refine hl_arg (c := 2) (hm_L _ _ rfl) (hm_L _ _ rfl) (hm_L _ _ rfl) (hm_L _ _ rfl) (hm_L _ _ rfl) h0 (by omega) (by omega) hN ?_
  refine hq_call (hm_L _ _ rfl) rfl ⟨Nat.le_of_ble_eq_true rfl, Nat.le_of_ble_eq_true rfl, fun _ => rfl⟩ z2 ?_
  refine hq_pop (hm_L _ _ rfl) rfl ?_
  refine hq_goto (hm_L _ _ rfl) ?_
  refine hq_iincZ (u := 6) (hm_L _ _ rfl) rfl rfl (hq_inc (by omega) (by omega)) ?_
  rw [Lv_inc]
  refine hq_goto (hm_L _ _ rfl) ?_
  exact k
theorem lw_16 {D : zD} (hD : ∀ i, -2147483648 ≤ D.2 i ∧ D.2 i ≤ 2147483647) (hN : D.1 < 2147483648) {h : zH} {i : Int} (h0 : 0 ≤ i) (h6 : i + 6 ≤ (D.1 : Int)) (hZ : lZ D h) (hR : fR h) : lStp D h i 800 := by
  obtain ⟨h1, v1, z1, hZ1, f1⟩ := lc_146 hD hZ (bs := [(0, D.2 (i + 1).toNat), (0, D.2 (i + 2).toNat), (0, D.2 (i + 3).toNat)]) ⟨⟨rfl, hD _⟩, ⟨⟨rfl, hD _⟩, ⟨⟨rfl, hD _⟩, trivial⟩⟩⟩
  obtain ⟨h2, v2, z2, hZ2, f2⟩ := lc_202 hD hZ1 (bs := [(0, D.2 (i + 1).toNat), (0, D.2 (i + 2).toNat), (0, D.2 (i + 3).toNat)]) ⟨⟨rfl, hD _⟩, ⟨⟨rfl, hD _⟩, ⟨⟨rfl, hD _⟩, trivial⟩⟩⟩
  have hR2 : fR h2 := (fRk_bite hD hZ hZ1 hR z1 f1 z2 f2).1
  refine ⟨h2, hZ2, hR2, fun zr k => ?_⟩
  refine hq_load (hm_L _ _ rfl) rfl rfl ?_
  refine hl_arg (c := 1) (hm_L _ _ rfl) (hm_L _ _ rfl) (hm_L _ _ rfl) (hm_L _ _ rfl) (hm_L _ _ rfl) h0 (by omega) (by omega) hN ?_
  refine hl_arg (c := 2) (hm_L _ _ rfl) (hm_L _ _ rfl) (hm_L _ _ rfl) (hm_L _ _ rfl) (hm_L _ _ rfl) h0 (by omega) (by omega) hN ?_
  refine hl_arg (c := 3) (hm_L _ _ rfl) (hm_L _ _ rfl) (hm_L _ _ rfl) (hm_L _ _ rfl) (hm_L _ _ rfl) h0 (by omega) (by omega) hN ?_
  refine hq_call (hm_L _ _ rfl) rfl ⟨Nat.le_of_ble_eq_true rfl, Nat.le_of_ble_eq_true rfl, fun _ => rfl⟩ z1 ?_
  refine hq_pop (hm_L _ _ rfl) rfl ?_
  refine hq_load (hm_L _ _ rfl) rfl rfl ?_
  refine hl_arg (c := 1) (hm_L _ _ rfl) (hm_L _ _ rfl) (hm_L _ _ rfl) (hm_L _ _ rfl) (hm_L _ _ rfl) h0 (by omega) (by omega) hN ?_
  refine hl_arg (c := 2) (hm_L _ _ rfl) (hm_L _ _ rfl) (hm_L _ _ rfl) (hm_L _ _ rfl) (hm_L _ _ rfl) h0 (by omega) (by omega) hN ?_
  refine hl_arg (c := 3) (hm_L _ _ rfl) (hm_L _ _ rfl) (hm_L _ _ rfl) (hm_L _ _ rfl) (hm_L _ _ rfl) h0 (by omega) (by omega) hN ?_
  refine hq_call (hm_L _ _ rfl) rfl ⟨Nat.le_of_ble_eq_true rfl, Nat.le_of_ble_eq_true rfl, fun _ => rfl⟩ z2 ?_
  refine hq_pop (hm_L _ _ rfl) rfl ?_
  refine hq_goto (hm_L _ _ rfl) ?_
  refine hq_iincZ (u := 6) (hm_L _ _ rfl) rfl rfl (hq_inc (by omega) (by omega)) ?_
  rw [Lv_inc]
  refine hq_goto (hm_L _ _ rfl) ?_
  exact k
theorem lw_17 {D : zD} (hD : ∀ i, -2147483648 ≤ D.2 i ∧ D.2 i ≤ 2147483647) (hN : D.1 < 2147483648) {h : zH} {i : Int} (h0 : 0 ≤ i) (h6 : i + 6 ≤ (D.1 : Int)) (hZ : lZ D h) (hR : fR h) : lStp D h i 843 := by
  obtain ⟨h1, v1, z1, hZ1, f1⟩ := lc_168 hD hZ (bs := [(0, D.2 (i + 1).toNat), (0, D.2 (i + 2).toNat), (0, D.2 (i + 3).toNat)]) ⟨⟨rfl, hD _⟩, ⟨⟨rfl, hD _⟩, ⟨⟨rfl, hD _⟩, trivial⟩⟩⟩
  obtain ⟨h2, v2, z2, hZ2, f2⟩ := lc_279 hD hZ1 (bs := [(0, D.2 (i + 1).toNat), (0, D.2 (i + 2).toNat), (0, D.2 (i + 3).toNat)]) ⟨⟨rfl, hD _⟩, ⟨⟨rfl, hD _⟩, ⟨⟨rfl, hD _⟩, trivial⟩⟩⟩
  have hR2 : fR h2 := (fRk_mould hD hZ hZ1 hR z1 f1 z2 f2).1
  refine ⟨h2, hZ2, hR2, fun zr k => ?_⟩
  refine hq_load (hm_L _ _ rfl) rfl rfl ?_
  refine hl_arg (c := 1) (hm_L _ _ rfl) (hm_L _ _ rfl) (hm_L _ _ rfl) (hm_L _ _ rfl) (hm_L _ _ rfl) h0 (by omega) (by omega) hN ?_
  refine hl_arg (c := 2) (hm_L _ _ rfl) (hm_L _ _ rfl) (hm_L _ _ rfl) (hm_L _ _ rfl) (hm_L _ _ rfl) h0 (by omega) (by omega) hN ?_
  refine hl_arg (c := 3) (hm_L _ _ rfl) (hm_L _ _ rfl) (hm_L _ _ rfl) (hm_L _ _ rfl) (hm_L _ _ rfl) h0 (by omega) (by omega) hN ?_
  refine hq_call (hm_L _ _ rfl) rfl ⟨Nat.le_of_ble_eq_true rfl, Nat.le_of_ble_eq_true rfl, fun _ => rfl⟩ z1 ?_
  refine hq_pop (hm_L _ _ rfl) rfl ?_
  refine hq_load (hm_L _ _ rfl) rfl rfl ?_
  refine hl_arg (c := 1) (hm_L _ _ rfl) (hm_L _ _ rfl) (hm_L _ _ rfl) (hm_L _ _ rfl) (hm_L _ _ rfl) h0 (by omega) (by omega) hN ?_
  refine hl_arg (c := 2) (hm_L _ _ rfl) (hm_L _ _ rfl) (hm_L _ _ rfl) (hm_L _ _ rfl) (hm_L _ _ rfl) h0 (by omega) (by omega) hN ?_
  refine hl_arg (c := 3) (hm_L _ _ rfl) (hm_L _ _ rfl) (hm_L _ _ rfl) (hm_L _ _ rfl) (hm_L _ _ rfl) h0 (by omega) (by omega) hN ?_
  refine hq_call (hm_L _ _ rfl) rfl ⟨Nat.le_of_ble_eq_true rfl, Nat.le_of_ble_eq_true rfl, fun _ => rfl⟩ z2 ?_
  refine hq_pop (hm_L _ _ rfl) rfl ?_
  refine hq_goto (hm_L _ _ rfl) ?_
  refine hq_iincZ (u := 6) (hm_L _ _ rfl) rfl rfl (hq_inc (by omega) (by omega)) ?_
  rw [Lv_inc]
  refine hq_goto (hm_L _ _ rfl) ?_
  exact k
theorem lw_18 {D : zD} (hD : ∀ i, -2147483648 ≤ D.2 i ∧ D.2 i ≤ 2147483647) (hN : D.1 < 2147483648) {h : zH} {i : Int} (h0 : 0 ≤ i) (h6 : i + 6 ≤ (D.1 : Int)) (hZ : lZ D h) (hR : fR h) : lStp D h i 886 := by
  obtain ⟨h1, v1, z1, hZ1, f1⟩ := lc_160 hD hZ (bs := [(0, D.2 (i + 1).toNat), (0, D.2 (i + 2).toNat), (0, D.2 (i + 3).toNat)]) ⟨⟨rfl, hD _⟩, ⟨⟨rfl, hD _⟩, ⟨⟨rfl, hD _⟩, trivial⟩⟩⟩
  obtain ⟨h2, v2, z2, hZ2, f2⟩ := lc_239 hD hZ1 (bs := [(0, D.2 (i + 1).toNat), (0, D.2 (i + 2).toNat), (0, D.2 (i + 3).toNat)]) ⟨⟨rfl, hD _⟩, ⟨⟨rfl, hD _⟩, ⟨⟨rfl, hD _⟩, trivial⟩⟩⟩
  have hR2 : fR h2 := (fRk_honey hD hZ hZ1 hR z1 f1 z2 f2).1
  refine ⟨h2, hZ2, hR2, fun zr k => ?_⟩
  refine hq_load (hm_L _ _ rfl) rfl rfl ?_
  refine hl_arg (c := 1) (hm_L _ _ rfl) (hm_L _ _ rfl) (hm_L _ _ rfl) (hm_L _ _ rfl) (hm_L _ _ rfl) h0 (by omega) (by omega) hN ?_
  refine hl_arg (c := 2) (hm_L _ _ rfl) (hm_L _ _ rfl) (hm_L _ _ rfl) (hm_L _ _ rfl) (hm_L _ _ rfl) h0 (by omega) (by omega) hN ?_
  refine hl_arg (c := 3) (hm_L _ _ rfl) (hm_L _ _ rfl) (hm_L _ _ rfl) (hm_L _ _ rfl) (hm_L _ _ rfl) h0 (by omega) (by omega) hN ?_
  refine hq_call (hm_L _ _ rfl) rfl ⟨Nat.le_of_ble_eq_true rfl, Nat.le_of_ble_eq_true rfl, fun _ => rfl⟩ z1 ?_
  refine hq_pop (hm_L _ _ rfl) rfl ?_
  refine hq_load (hm_L _ _ rfl) rfl rfl ?_
  refine hl_arg (c := 1) (hm_L _ _ rfl) (hm_L _ _ rfl) (hm_L _ _ rfl) (hm_L _ _ rfl) (hm_L _ _ rfl) h0 (by omega) (by omega) hN ?_
  refine hl_arg (c := 2) (hm_L _ _ rfl) (hm_L _ _ rfl) (hm_L _ _ rfl) (hm_L _ _ rfl) (hm_L _ _ rfl) h0 (by omega) (by omega) hN ?_
  refine hl_arg (c := 3) (hm_L _ _ rfl) (hm_L _ _ rfl) (hm_L _ _ rfl) (hm_L _ _ rfl) (hm_L _ _ rfl) h0 (by omega) (by omega) hN ?_
  refine hq_call (hm_L _ _ rfl) rfl ⟨Nat.le_of_ble_eq_true rfl, Nat.le_of_ble_eq_true rfl, fun _ => rfl⟩ z2 ?_
  refine hq_pop (hm_L _ _ rfl) rfl ?_
  refine hq_goto (hm_L _ _ rfl) ?_
  refine hq_iincZ (u := 6) (hm_L _ _ rfl) rfl rfl (hq_inc (by omega) (by omega)) ?_
  rw [Lv_inc]
  refine hq_goto (hm_L _ _ rfl) ?_
  exact k
theorem lw_19 {D : zD} (hD : ∀ i, -2147483648 ≤ D.2 i ∧ D.2 i ≤ 2147483647) (hN : D.1 < 2147483648) {h : zH} {i : Int} (h0 : 0 ≤ i) (h6 : i + 6 ≤ (D.1 : Int)) (hZ : lZ D h) (hR : fR h) : lStp D h i 929 := by
  obtain ⟨h1, v1, z1, hZ1, f1⟩ := lc_149 hD hZ (bs := [(0, D.2 (i + 1).toNat), (0, D.2 (i + 2).toNat), (0, D.2 (i + 3).toNat)]) ⟨⟨rfl, hD _⟩, ⟨⟨rfl, hD _⟩, ⟨⟨rfl, hD _⟩, trivial⟩⟩⟩
  obtain ⟨h2, v2, z2, hZ2, f2⟩ := lc_208 hD hZ1 (bs := [(0, D.2 (i + 1).toNat), (0, D.2 (i + 2).toNat), (0, D.2 (i + 3).toNat)]) ⟨⟨rfl, hD _⟩, ⟨⟨rfl, hD _⟩, ⟨⟨rfl, hD _⟩, trivial⟩⟩⟩
  have hR2 : fR h2 := (fRk_clean hD hZ hZ1 hR z1 f1 z2 f2).1
  refine ⟨h2, hZ2, hR2, fun zr k => ?_⟩
  refine hq_load (hm_L _ _ rfl) rfl rfl ?_
  refine hl_arg (c := 1) (hm_L _ _ rfl) (hm_L _ _ rfl) (hm_L _ _ rfl) (hm_L _ _ rfl) (hm_L _ _ rfl) h0 (by omega) (by omega) hN ?_
  refine hl_arg (c := 2) (hm_L _ _ rfl) (hm_L _ _ rfl) (hm_L _ _ rfl) (hm_L _ _ rfl) (hm_L _ _ rfl) h0 (by omega) (by omega) hN ?_
  refine hl_arg (c := 3) (hm_L _ _ rfl) (hm_L _ _ rfl) (hm_L _ _ rfl) (hm_L _ _ rfl) (hm_L _ _ rfl) h0 (by omega) (by omega) hN ?_
  refine hq_call (hm_L _ _ rfl) rfl ⟨Nat.le_of_ble_eq_true rfl, Nat.le_of_ble_eq_true rfl, fun _ => rfl⟩ z1 ?_
  refine hq_pop (hm_L _ _ rfl) rfl ?_
  refine hq_load (hm_L _ _ rfl) rfl rfl ?_
  refine hl_arg (c := 1) (hm_L _ _ rfl) (hm_L _ _ rfl) (hm_L _ _ rfl) (hm_L _ _ rfl) (hm_L _ _ rfl) h0 (by omega) (by omega) hN ?_
  refine hl_arg (c := 2) (hm_L _ _ rfl) (hm_L _ _ rfl) (hm_L _ _ rfl) (hm_L _ _ rfl) (hm_L _ _ rfl) h0 (by omega) (by omega) hN ?_
  refine hl_arg (c := 3) (hm_L _ _ rfl) (hm_L _ _ rfl) (hm_L _ _ rfl) (hm_L _ _ rfl) (hm_L _ _ rfl) h0 (by omega) (by omega) hN ?_
  refine hq_call (hm_L _ _ rfl) rfl ⟨Nat.le_of_ble_eq_true rfl, Nat.le_of_ble_eq_true rfl, fun _ => rfl⟩ z2 ?_
  refine hq_pop (hm_L _ _ rfl) rfl ?_
  refine hq_goto (hm_L _ _ rfl) ?_
  refine hq_iincZ (u := 6) (hm_L _ _ rfl) rfl rfl (hq_inc (by omega) (by omega)) ?_
  rw [Lv_inc]
  refine hq_goto (hm_L _ _ rfl) ?_
  exact k
theorem lw_20 {D : zD} (hD : ∀ i, -2147483648 ≤ D.2 i ∧ D.2 i ≤ 2147483647) (hN : D.1 < 2147483648) {h : zH} {i : Int} (h0 : 0 ≤ i) (h6 : i + 6 ≤ (D.1 : Int)) (hZ : lZ D h) (hR : fR h) : lStp D h i 972 := by
  obtain ⟨h1, v1, z1, hZ1, f1⟩ := lc_182 hD hZ (bs := [(0, D.2 (i + 1).toNat), (0, D.2 (i + 2).toNat)]) ⟨⟨rfl, hD _⟩, ⟨⟨rfl, hD _⟩, trivial⟩⟩
  obtain ⟨h2, v2, z2, hZ2, f2⟩ := lc_316 hD hZ1 (bs := [(0, D.2 (i + 1).toNat), (0, D.2 (i + 2).toNat)]) ⟨⟨rfl, hD _⟩, ⟨⟨rfl, hD _⟩, trivial⟩⟩
  have hR2 : fR h2 := (fRk_steam hD hZ hZ1 hR z1 f1 z2 f2).1
  refine ⟨h2, hZ2, hR2, fun zr k => ?_⟩
  refine hq_load (hm_L _ _ rfl) rfl rfl ?_
  refine hl_arg (c := 1) (hm_L _ _ rfl) (hm_L _ _ rfl) (hm_L _ _ rfl) (hm_L _ _ rfl) (hm_L _ _ rfl) h0 (by omega) (by omega) hN ?_
  refine hl_arg (c := 2) (hm_L _ _ rfl) (hm_L _ _ rfl) (hm_L _ _ rfl) (hm_L _ _ rfl) (hm_L _ _ rfl) h0 (by omega) (by omega) hN ?_
  refine hq_call (hm_L _ _ rfl) rfl ⟨Nat.le_of_ble_eq_true rfl, Nat.le_of_ble_eq_true rfl, fun _ => rfl⟩ z1 ?_
  refine hq_pop (hm_L _ _ rfl) rfl ?_
  refine hq_load (hm_L _ _ rfl) rfl rfl ?_
  refine hl_arg (c := 1) (hm_L _ _ rfl) (hm_L _ _ rfl) (hm_L _ _ rfl) (hm_L _ _ rfl) (hm_L _ _ rfl) h0 (by omega) (by omega) hN ?_
  refine hl_arg (c := 2) (hm_L _ _ rfl) (hm_L _ _ rfl) (hm_L _ _ rfl) (hm_L _ _ rfl) (hm_L _ _ rfl) h0 (by omega) (by omega) hN ?_
  refine hq_call (hm_L _ _ rfl) rfl ⟨Nat.le_of_ble_eq_true rfl, Nat.le_of_ble_eq_true rfl, fun _ => rfl⟩ z2 ?_
  refine hq_pop (hm_L _ _ rfl) rfl ?_
  refine hq_goto (hm_L _ _ rfl) ?_
  refine hq_iincZ (u := 6) (hm_L _ _ rfl) rfl rfl (hq_inc (by omega) (by omega)) ?_
  rw [Lv_inc]
  refine hq_goto (hm_L _ _ rfl) ?_
  exact k
theorem lw_21 {D : zD} (hD : ∀ i, -2147483648 ≤ D.2 i ∧ D.2 i ≤ 2147483647) (hN : D.1 < 2147483648) {h : zH} {i : Int} (h0 : 0 ≤ i) (h6 : i + 6 ≤ (D.1 : Int)) (hZ : lZ D h) (hR : fR h) : lStp D h i 1005 := by
  obtain ⟨h1, v1, z1, hZ1, f1⟩ := lc_190 hD hZ (bs := [(0, D.2 (i + 1).toNat), (0, D.2 (i + 2).toNat)]) ⟨⟨rfl, hD _⟩, ⟨⟨rfl, hD _⟩, trivial⟩⟩
  obtain ⟨h2, v2, z2, hZ2, f2⟩ := lc_332 hD hZ1 (bs := [(0, D.2 (i + 1).toNat), (0, D.2 (i + 2).toNat)]) ⟨⟨rfl, hD _⟩, ⟨⟨rfl, hD _⟩, trivial⟩⟩
  have hR2 : fR h2 := fR_S.fr (M := lM_332) (by decide +kernel) f2 (fR_S.fr (M := lM_190) (by decide +kernel) f1 hR)
  refine ⟨h2, hZ2, hR2, fun zr k => ?_⟩
  refine hq_load (hm_L _ _ rfl) rfl rfl ?_
  refine hl_arg (c := 1) (hm_L _ _ rfl) (hm_L _ _ rfl) (hm_L _ _ rfl) (hm_L _ _ rfl) (hm_L _ _ rfl) h0 (by omega) (by omega) hN ?_
  refine hl_arg (c := 2) (hm_L _ _ rfl) (hm_L _ _ rfl) (hm_L _ _ rfl) (hm_L _ _ rfl) (hm_L _ _ rfl) h0 (by omega) (by omega) hN ?_
  refine hq_call (hm_L _ _ rfl) rfl ⟨Nat.le_of_ble_eq_true rfl, Nat.le_of_ble_eq_true rfl, fun _ => rfl⟩ z1 ?_
  refine hq_pop (hm_L _ _ rfl) rfl ?_
  refine hq_load (hm_L _ _ rfl) rfl rfl ?_
  refine hl_arg (c := 1) (hm_L _ _ rfl) (hm_L _ _ rfl) (hm_L _ _ rfl) (hm_L _ _ rfl) (hm_L _ _ rfl) h0 (by omega) (by omega) hN ?_
  refine hl_arg (c := 2) (hm_L _ _ rfl) (hm_L _ _ rfl) (hm_L _ _ rfl) (hm_L _ _ rfl) (hm_L _ _ rfl) h0 (by omega) (by omega) hN ?_
  refine hq_call (hm_L _ _ rfl) rfl ⟨Nat.le_of_ble_eq_true rfl, Nat.le_of_ble_eq_true rfl, fun _ => rfl⟩ z2 ?_
  refine hq_pop (hm_L _ _ rfl) rfl ?_
  refine hq_goto (hm_L _ _ rfl) ?_
  refine hq_iincZ (u := 6) (hm_L _ _ rfl) rfl rfl (hq_inc (by omega) (by omega)) ?_
  rw [Lv_inc]
  refine hq_goto (hm_L _ _ rfl) ?_
  exact k
theorem lw_22 {D : zD} (hD : ∀ i, -2147483648 ≤ D.2 i ∧ D.2 i ≤ 2147483647) (hN : D.1 < 2147483648) {h : zH} {i : Int} (h0 : 0 ≤ i) (h6 : i + 6 ≤ (D.1 : Int)) (hZ : lZ D h) (hR : fR h) : lStp D h i 1038 := by
  obtain ⟨h1, v1, z1, hZ1, f1⟩ := lc_152 hD hZ (bs := [(0, D.2 (i + 1).toNat), (0, D.2 (i + 2).toNat)]) ⟨⟨rfl, hD _⟩, ⟨⟨rfl, hD _⟩, trivial⟩⟩
  obtain ⟨h2, v2, z2, hZ2, f2⟩ := lc_213 hD hZ1 (bs := [(0, D.2 (i + 1).toNat), (0, D.2 (i + 2).toNat)]) ⟨⟨rfl, hD _⟩, ⟨⟨rfl, hD _⟩, trivial⟩⟩
  have hR2 : fR h2 := fR_S.fr (M := lM_213) (by decide +kernel) f2 (fR_S.fr (M := lM_152) (by decide +kernel) f1 hR)
  refine ⟨h2, hZ2, hR2, fun zr k => ?_⟩
  refine hq_load (hm_L _ _ rfl) rfl rfl ?_
  refine hl_arg (c := 1) (hm_L _ _ rfl) (hm_L _ _ rfl) (hm_L _ _ rfl) (hm_L _ _ rfl) (hm_L _ _ rfl) h0 (by omega) (by omega) hN ?_
  refine hl_arg (c := 2) (hm_L _ _ rfl) (hm_L _ _ rfl) (hm_L _ _ rfl) (hm_L _ _ rfl) (hm_L _ _ rfl) h0 (by omega) (by omega) hN ?_
  refine hq_call (hm_L _ _ rfl) rfl ⟨Nat.le_of_ble_eq_true rfl, Nat.le_of_ble_eq_true rfl, fun _ => rfl⟩ z1 ?_
  refine hq_pop (hm_L _ _ rfl) rfl ?_
  refine hq_load (hm_L _ _ rfl) rfl rfl ?_
  refine hl_arg (c := 1) (hm_L _ _ rfl) (hm_L _ _ rfl) (hm_L _ _ rfl) (hm_L _ _ rfl) (hm_L _ _ rfl) h0 (by omega) (by omega) hN ?_
  refine hl_arg (c := 2) (hm_L _ _ rfl) (hm_L _ _ rfl) (hm_L _ _ rfl) (hm_L _ _ rfl) (hm_L _ _ rfl) h0 (by omega) (by omega) hN ?_
  refine hq_call (hm_L _ _ rfl) rfl ⟨Nat.le_of_ble_eq_true rfl, Nat.le_of_ble_eq_true rfl, fun _ => rfl⟩ z2 ?_
  refine hq_pop (hm_L _ _ rfl) rfl ?_
  refine hq_goto (hm_L _ _ rfl) ?_
  refine hq_iincZ (u := 6) (hm_L _ _ rfl) rfl rfl (hq_inc (by omega) (by omega)) ?_
  rw [Lv_inc]
  refine hq_goto (hm_L _ _ rfl) ?_
  exact k
theorem lw_23 {D : zD} (hD : ∀ i, -2147483648 ≤ D.2 i ∧ D.2 i ≤ 2147483647) (hN : D.1 < 2147483648) {h : zH} {i : Int} (h0 : 0 ≤ i) (h6 : i + 6 ≤ (D.1 : Int)) (hZ : lZ D h) (hR : fR h) : lStp D h i 1071 := by
  obtain ⟨h1, v1, z1, hZ1, f1⟩ := lc_159 hD hZ (bs := [(0, D.2 (i + 1).toNat)]) ⟨⟨rfl, hD _⟩, trivial⟩
  obtain ⟨h2, v2, z2, hZ2, f2⟩ := lc_238 hD hZ1 (bs := [(0, D.2 (i + 1).toNat)]) ⟨⟨rfl, hD _⟩, trivial⟩
  have hR2 : fR h2 := fR_S.fr (M := lM_238) (by decide +kernel) f2 (fR_S.fr (M := lM_159) (by decide +kernel) f1 hR)
  refine ⟨h2, hZ2, hR2, fun zr k => ?_⟩
  refine hq_load (hm_L _ _ rfl) rfl rfl ?_
  refine hl_arg (c := 1) (hm_L _ _ rfl) (hm_L _ _ rfl) (hm_L _ _ rfl) (hm_L _ _ rfl) (hm_L _ _ rfl) h0 (by omega) (by omega) hN ?_
  refine hq_call (hm_L _ _ rfl) rfl ⟨Nat.le_of_ble_eq_true rfl, Nat.le_of_ble_eq_true rfl, fun _ => rfl⟩ z1 ?_
  refine hq_pop (hm_L _ _ rfl) rfl ?_
  refine hq_load (hm_L _ _ rfl) rfl rfl ?_
  refine hl_arg (c := 1) (hm_L _ _ rfl) (hm_L _ _ rfl) (hm_L _ _ rfl) (hm_L _ _ rfl) (hm_L _ _ rfl) h0 (by omega) (by omega) hN ?_
  refine hq_call (hm_L _ _ rfl) rfl ⟨Nat.le_of_ble_eq_true rfl, Nat.le_of_ble_eq_true rfl, fun _ => rfl⟩ z2 ?_
  refine hq_pop (hm_L _ _ rfl) rfl ?_
  refine hq_goto (hm_L _ _ rfl) ?_
  refine hq_iincZ (u := 6) (hm_L _ _ rfl) rfl rfl (hq_inc (by omega) (by omega)) ?_
  rw [Lv_inc]
  refine hq_goto (hm_L _ _ rfl) ?_
  exact k
theorem lw_24 {D : zD} (hD : ∀ i, -2147483648 ≤ D.2 i ∧ D.2 i ≤ 2147483647) (hN : D.1 < 2147483648) {h : zH} {i : Int} (h0 : 0 ≤ i) (h6 : i + 6 ≤ (D.1 : Int)) (hZ : lZ D h) (hR : fR h) : lStp D h i 1094 := by
  obtain ⟨h1, v1, z1, hZ1, f1⟩ := lc_191 hD hZ (bs := [(0, D.2 (i + 1).toNat)]) ⟨⟨rfl, hD _⟩, trivial⟩
  obtain ⟨h2, v2, z2, hZ2, f2⟩ := lc_334 hD hZ1 (bs := [(0, D.2 (i + 1).toNat)]) ⟨⟨rfl, hD _⟩, trivial⟩
  have hR2 : fR h2 := fR_S.fr (M := lM_334) (by decide +kernel) f2 (fR_S.fr (M := lM_191) (by decide +kernel) f1 hR)
  refine ⟨h2, hZ2, hR2, fun zr k => ?_⟩
  refine hq_load (hm_L _ _ rfl) rfl rfl ?_
  refine hl_arg (c := 1) (hm_L _ _ rfl) (hm_L _ _ rfl) (hm_L _ _ rfl) (hm_L _ _ rfl) (hm_L _ _ rfl) h0 (by omega) (by omega) hN ?_
  refine hq_call (hm_L _ _ rfl) rfl ⟨Nat.le_of_ble_eq_true rfl, Nat.le_of_ble_eq_true rfl, fun _ => rfl⟩ z1 ?_
  refine hq_pop (hm_L _ _ rfl) rfl ?_
  refine hq_load (hm_L _ _ rfl) rfl rfl ?_
  refine hl_arg (c := 1) (hm_L _ _ rfl) (hm_L _ _ rfl) (hm_L _ _ rfl) (hm_L _ _ rfl) (hm_L _ _ rfl) h0 (by omega) (by omega) hN ?_
  refine hq_call (hm_L _ _ rfl) rfl ⟨Nat.le_of_ble_eq_true rfl, Nat.le_of_ble_eq_true rfl, fun _ => rfl⟩ z2 ?_
  refine hq_pop (hm_L _ _ rfl) rfl ?_
  refine hq_goto (hm_L _ _ rfl) ?_
  refine hq_iincZ (u := 6) (hm_L _ _ rfl) rfl rfl (hq_inc (by omega) (by omega)) ?_
  rw [Lv_inc]
  refine hq_goto (hm_L _ _ rfl) ?_
  exact k
theorem lw_25 {D : zD} (hD : ∀ i, -2147483648 ≤ D.2 i ∧ D.2 i ≤ 2147483647) (hN : D.1 < 2147483648) {h : zH} {i : Int} (h0 : 0 ≤ i) (h6 : i + 6 ≤ (D.1 : Int)) (hZ : lZ D h) (hR : fR h) : lStp D h i 1117 := by
  obtain ⟨h1, v1, z1, hZ1, f1⟩ := lc_192 hD hZ (bs := [(0, D.2 (i + 1).toNat), (0, D.2 (i + 2).toNat)]) ⟨⟨rfl, hD _⟩, ⟨⟨rfl, hD _⟩, trivial⟩⟩
  obtain ⟨h2, v2, z2, hZ2, f2⟩ := lc_335 hD hZ1 (bs := [(0, D.2 (i + 1).toNat), (0, D.2 (i + 2).toNat)]) ⟨⟨rfl, hD _⟩, ⟨⟨rfl, hD _⟩, trivial⟩⟩
  have hR2 : fR h2 := fR_S.fr (M := lM_335) (by decide +kernel) f2 (fR_S.fr (M := lM_192) (by decide +kernel) f1 hR)
  refine ⟨h2, hZ2, hR2, fun zr k => ?_⟩
  refine hq_load (hm_L _ _ rfl) rfl rfl ?_
  refine hl_arg (c := 1) (hm_L _ _ rfl) (hm_L _ _ rfl) (hm_L _ _ rfl) (hm_L _ _ rfl) (hm_L _ _ rfl) h0 (by omega) (by omega) hN ?_
  refine hl_arg (c := 2) (hm_L _ _ rfl) (hm_L _ _ rfl) (hm_L _ _ rfl) (hm_L _ _ rfl) (hm_L _ _ rfl) h0 (by omega) (by omega) hN ?_
  refine hq_call (hm_L _ _ rfl) rfl ⟨Nat.le_of_ble_eq_true rfl, Nat.le_of_ble_eq_true rfl, fun _ => rfl⟩ z1 ?_
  refine hq_pop (hm_L _ _ rfl) rfl ?_
  refine hq_load (hm_L _ _ rfl) rfl rfl ?_
  refine hl_arg (c := 1) (hm_L _ _ rfl) (hm_L _ _ rfl) (hm_L _ _ rfl) (hm_L _ _ rfl) (hm_L _ _ rfl) h0 (by omega) (by omega) hN ?_
  refine hl_arg (c := 2) (hm_L _ _ rfl) (hm_L _ _ rfl) (hm_L _ _ rfl) (hm_L _ _ rfl) (hm_L _ _ rfl) h0 (by omega) (by omega) hN ?_
  refine hq_call (hm_L _ _ rfl) rfl ⟨Nat.le_of_ble_eq_true rfl, Nat.le_of_ble_eq_true rfl, fun _ => rfl⟩ z2 ?_
  refine hq_pop (hm_L _ _ rfl) rfl ?_
  refine hq_goto (hm_L _ _ rfl) ?_
  refine hq_iincZ (u := 6) (hm_L _ _ rfl) rfl rfl (hq_inc (by omega) (by omega)) ?_
  rw [Lv_inc]
  refine hq_goto (hm_L _ _ rfl) ?_
  exact k
theorem lw_26 {D : zD} (hD : ∀ i, -2147483648 ≤ D.2 i ∧ D.2 i ≤ 2147483647) (hN : D.1 < 2147483648) {h : zH} {i : Int} (h0 : 0 ≤ i) (h6 : i + 6 ≤ (D.1 : Int)) (hZ : lZ D h) (hR : fR h) : lStp D h i 1150 := by
  obtain ⟨h1, v1, z1, hZ1, f1⟩ := lc_164 hD hZ (bs := [(0, D.2 (i + 1).toNat)]) ⟨⟨rfl, hD _⟩, trivial⟩
  obtain ⟨h2, v2, z2, hZ2, f2⟩ := lc_274 hD hZ1 (bs := [(0, D.2 (i + 1).toNat)]) ⟨⟨rfl, hD _⟩, trivial⟩
  have hR2 : fR h2 := (fRk_march hD hZ hZ1 hR z1 f1 z2 f2).1
  refine ⟨h2, hZ2, hR2, fun zr k => ?_⟩
  refine hq_load (hm_L _ _ rfl) rfl rfl ?_
  refine hl_arg (c := 1) (hm_L _ _ rfl) (hm_L _ _ rfl) (hm_L _ _ rfl) (hm_L _ _ rfl) (hm_L _ _ rfl) h0 (by omega) (by omega) hN ?_
  refine hq_call (hm_L _ _ rfl) rfl ⟨Nat.le_of_ble_eq_true rfl, Nat.le_of_ble_eq_true rfl, fun _ => rfl⟩ z1 ?_
  refine hq_pop (hm_L _ _ rfl) rfl ?_
  refine hq_load (hm_L _ _ rfl) rfl rfl ?_
  refine hl_arg (c := 1) (hm_L _ _ rfl) (hm_L _ _ rfl) (hm_L _ _ rfl) (hm_L _ _ rfl) (hm_L _ _ rfl) h0 (by omega) (by omega) hN ?_
  refine hq_call (hm_L _ _ rfl) rfl ⟨Nat.le_of_ble_eq_true rfl, Nat.le_of_ble_eq_true rfl, fun _ => rfl⟩ z2 ?_
  refine hq_pop (hm_L _ _ rfl) rfl ?_
  refine hq_goto (hm_L _ _ rfl) ?_
  refine hq_iincZ (u := 6) (hm_L _ _ rfl) rfl rfl (hq_inc (by omega) (by omega)) ?_
  rw [Lv_inc]
  refine hq_goto (hm_L _ _ rfl) ?_
  exact k
theorem lw_27 {D : zD} (hD : ∀ i, -2147483648 ≤ D.2 i ∧ D.2 i ≤ 2147483647) (hN : D.1 < 2147483648) {h : zH} {i : Int} (h0 : 0 ≤ i) (h6 : i + 6 ≤ (D.1 : Int)) (hZ : lZ D h) (hR : fR h) : lStp D h i 1173 := by
  obtain ⟨h1, v1, z1, hZ1, f1⟩ := lc_183 hD hZ (bs := []) trivial
  obtain ⟨h2, v2, z2, hZ2, f2⟩ := lc_319 hD hZ1 (bs := []) trivial
  have hR2 : fR h2 := fR_S.fr (M := lM_319) (by decide +kernel) f2 (fR_S.fr (M := lM_183) (by decide +kernel) f1 hR)
  refine ⟨h2, hZ2, hR2, fun zr k => ?_⟩
  refine hq_load (hm_L _ _ rfl) rfl rfl ?_
  refine hq_call (hm_L _ _ rfl) rfl ⟨Nat.le_of_ble_eq_true rfl, Nat.le_of_ble_eq_true rfl, fun _ => rfl⟩ z1 ?_
  refine hq_pop (hm_L _ _ rfl) rfl ?_
  refine hq_load (hm_L _ _ rfl) rfl rfl ?_
  refine hq_call (hm_L _ _ rfl) rfl ⟨Nat.le_of_ble_eq_true rfl, Nat.le_of_ble_eq_true rfl, fun _ => rfl⟩ z2 ?_
  refine hq_pop (hm_L _ _ rfl) rfl ?_
  refine hq_goto (hm_L _ _ rfl) ?_
  refine hq_iincZ (u := 6) (hm_L _ _ rfl) rfl rfl (hq_inc (by omega) (by omega)) ?_
  rw [Lv_inc]
  refine hq_goto (hm_L _ _ rfl) ?_
  exact k
theorem lw_28 {D : zD} (hD : ∀ i, -2147483648 ≤ D.2 i ∧ D.2 i ≤ 2147483647) (hN : D.1 < 2147483648) {h : zH} {i : Int} (h0 : 0 ≤ i) (h6 : i + 6 ≤ (D.1 : Int)) (hZ : lZ D h) (hR : fR h) : lStp D h i 1186 := by
  obtain ⟨h1, v1, z1, hZ1, f1⟩ := lc_189 hD hZ (bs := [(0, D.2 (i + 1).toNat)]) ⟨⟨rfl, hD _⟩, trivial⟩
  obtain ⟨h2, v2, z2, hZ2, f2⟩ := lc_331 hD hZ1 (bs := [(0, D.2 (i + 1).toNat)]) ⟨⟨rfl, hD _⟩, trivial⟩
  have hR2 : fR h2 := fR_S.fr (M := lM_331) (by decide +kernel) f2 (fR_S.fr (M := lM_189) (by decide +kernel) f1 hR)
  refine ⟨h2, hZ2, hR2, fun zr k => ?_⟩
  refine hq_load (hm_L _ _ rfl) rfl rfl ?_
  refine hl_arg (c := 1) (hm_L _ _ rfl) (hm_L _ _ rfl) (hm_L _ _ rfl) (hm_L _ _ rfl) (hm_L _ _ rfl) h0 (by omega) (by omega) hN ?_
  refine hq_call (hm_L _ _ rfl) rfl ⟨Nat.le_of_ble_eq_true rfl, Nat.le_of_ble_eq_true rfl, fun _ => rfl⟩ z1 ?_
  refine hq_pop (hm_L _ _ rfl) rfl ?_
  refine hq_load (hm_L _ _ rfl) rfl rfl ?_
  refine hl_arg (c := 1) (hm_L _ _ rfl) (hm_L _ _ rfl) (hm_L _ _ rfl) (hm_L _ _ rfl) (hm_L _ _ rfl) h0 (by omega) (by omega) hN ?_
  refine hq_call (hm_L _ _ rfl) rfl ⟨Nat.le_of_ble_eq_true rfl, Nat.le_of_ble_eq_true rfl, fun _ => rfl⟩ z2 ?_
  refine hq_pop (hm_L _ _ rfl) rfl ?_
  refine hq_goto (hm_L _ _ rfl) ?_
  refine hq_iincZ (u := 6) (hm_L _ _ rfl) rfl rfl (hq_inc (by omega) (by omega)) ?_
  rw [Lv_inc]
  refine hq_goto (hm_L _ _ rfl) ?_
  exact k
theorem lw_29 {D : zD} (hD : ∀ i, -2147483648 ≤ D.2 i ∧ D.2 i ≤ 2147483647) (hN : D.1 < 2147483648) {h : zH} {i : Int} (h0 : 0 ≤ i) (h6 : i + 6 ≤ (D.1 : Int)) (hZ : lZ D h) (hR : fR h) : lStp D h i 1209 := by
  obtain ⟨h1, v1, z1, hZ1, f1⟩ := lc_145 hD hZ (bs := [(0, D.2 (i + 1).toNat)]) ⟨⟨rfl, hD _⟩, trivial⟩
  obtain ⟨h2, v2, z2, hZ2, f2⟩ := lc_201 hD hZ1 (bs := [(0, D.2 (i + 1).toNat)]) ⟨⟨rfl, hD _⟩, trivial⟩
  obtain ⟨hR2, hE⟩ := fRa_best hD hZ hZ1 hR z1 f1 z2 f2
  refine ⟨h2, hZ2, hR2, fun zr k => ?_⟩
  refine hq_load (hm_L _ _ rfl) rfl rfl ?_
  refine hl_arg (c := 1) (hm_L _ _ rfl) (hm_L _ _ rfl) (hm_L _ _ rfl) (hm_L _ _ rfl) (hm_L _ _ rfl) h0 (by omega) (by omega) hN ?_
  refine hq_call (hm_L _ _ rfl) rfl ⟨Nat.le_of_ble_eq_true rfl, Nat.le_of_ble_eq_true rfl, fun _ => rfl⟩ z1 ?_
  refine hq_load (hm_L _ _ rfl) rfl rfl ?_
  refine hl_arg (c := 1) (hm_L _ _ rfl) (hm_L _ _ rfl) (hm_L _ _ rfl) (hm_L _ _ rfl) (hm_L _ _ rfl) h0 (by omega) (by omega) hN ?_
  refine hq_call (hm_L _ _ rfl) rfl ⟨Nat.le_of_ble_eq_true rfl, Nat.le_of_ble_eq_true rfl, fun _ => rfl⟩ z2 ?_
  refine hq_icT (hm_L _ _ rfl) (zr2T hE) ?_
  refine hq_iincZ (u := 6) (hm_L _ _ rfl) rfl rfl (hq_inc (by omega) (by omega)) ?_
  rw [Lv_inc]
  refine hq_goto (hm_L _ _ rfl) ?_
  exact k
theorem lw_30 {D : zD} (hD : ∀ i, -2147483648 ≤ D.2 i ∧ D.2 i ≤ 2147483647) (hN : D.1 < 2147483648) {h : zH} {i : Int} (h0 : 0 ≤ i) (h6 : i + 6 ≤ (D.1 : Int)) (hZ : lZ D h) (hR : fR h) : lStp D h i 1232 := by
  obtain ⟨h1, v1, z1, hZ1, f1⟩ := lc_158 hD hZ (bs := [(0, D.2 (i + 1).toNat), (0, D.2 (i + 2).toNat)]) ⟨⟨rfl, hD _⟩, ⟨⟨rfl, hD _⟩, trivial⟩⟩
  obtain ⟨h2, v2, z2, hZ2, f2⟩ := lc_236 hD hZ1 (bs := [(0, D.2 (i + 1).toNat), (0, D.2 (i + 2).toNat)]) ⟨⟨rfl, hD _⟩, ⟨⟨rfl, hD _⟩, trivial⟩⟩
  have hR2 : fR h2 := (fRk_hand hD hZ hZ1 hR z1 f1 z2 f2).1
  refine ⟨h2, hZ2, hR2, fun zr k => ?_⟩
  refine hq_load (hm_L _ _ rfl) rfl rfl ?_
  refine hl_arg (c := 1) (hm_L _ _ rfl) (hm_L _ _ rfl) (hm_L _ _ rfl) (hm_L _ _ rfl) (hm_L _ _ rfl) h0 (by omega) (by omega) hN ?_
  refine hl_arg (c := 2) (hm_L _ _ rfl) (hm_L _ _ rfl) (hm_L _ _ rfl) (hm_L _ _ rfl) (hm_L _ _ rfl) h0 (by omega) (by omega) hN ?_
  refine hq_call (hm_L _ _ rfl) rfl ⟨Nat.le_of_ble_eq_true rfl, Nat.le_of_ble_eq_true rfl, fun _ => rfl⟩ z1 ?_
  refine hq_pop (hm_L _ _ rfl) rfl ?_
  refine hq_load (hm_L _ _ rfl) rfl rfl ?_
  refine hl_arg (c := 1) (hm_L _ _ rfl) (hm_L _ _ rfl) (hm_L _ _ rfl) (hm_L _ _ rfl) (hm_L _ _ rfl) h0 (by omega) (by omega) hN ?_
  refine hl_arg (c := 2) (hm_L _ _ rfl) (hm_L _ _ rfl) (hm_L _ _ rfl) (hm_L _ _ rfl) (hm_L _ _ rfl) h0 (by omega) (by omega) hN ?_
  refine hq_call (hm_L _ _ rfl) rfl ⟨Nat.le_of_ble_eq_true rfl, Nat.le_of_ble_eq_true rfl, fun _ => rfl⟩ z2 ?_
  refine hq_pop (hm_L _ _ rfl) rfl ?_
  refine hq_goto (hm_L _ _ rfl) ?_
  refine hq_iincZ (u := 6) (hm_L _ _ rfl) rfl rfl (hq_inc (by omega) (by omega)) ?_
  rw [Lv_inc]
  refine hq_goto (hm_L _ _ rfl) ?_
  exact k
theorem lw_31 {D : zD} (hD : ∀ i, -2147483648 ≤ D.2 i ∧ D.2 i ≤ 2147483647) (hN : D.1 < 2147483648) {h : zH} {i : Int} (h0 : 0 ≤ i) (h6 : i + 6 ≤ (D.1 : Int)) (hZ : lZ D h) (hR : fR h) : lStp D h i 1265 := by
  obtain ⟨h1, v1, z1, hZ1, f1⟩ := lc_174 hD hZ (bs := []) trivial
  obtain ⟨h2, v2, z2, hZ2, f2⟩ := lc_293 hD hZ1 (bs := []) trivial
  have hR2 : fR h2 := fR_S.fr (M := lM_293) (by decide +kernel) f2 (fR_S.fr (M := lM_174) (by decide +kernel) f1 hR)
  refine ⟨h2, hZ2, hR2, fun zr k => ?_⟩
  refine hq_load (hm_L _ _ rfl) rfl rfl ?_
  refine hq_call (hm_L _ _ rfl) rfl ⟨Nat.le_of_ble_eq_true rfl, Nat.le_of_ble_eq_true rfl, fun _ => rfl⟩ z1 ?_
  refine hq_pop (hm_L _ _ rfl) rfl ?_
  refine hq_load (hm_L _ _ rfl) rfl rfl ?_
  refine hq_call (hm_L _ _ rfl) rfl ⟨Nat.le_of_ble_eq_true rfl, Nat.le_of_ble_eq_true rfl, fun _ => rfl⟩ z2 ?_
  refine hq_pop (hm_L _ _ rfl) rfl ?_
  refine hq_goto (hm_L _ _ rfl) ?_
  refine hq_iincZ (u := 6) (hm_L _ _ rfl) rfl rfl (hq_inc (by omega) (by omega)) ?_
  rw [Lv_inc]
  refine hq_goto (hm_L _ _ rfl) ?_
  exact k
theorem lw_32 {D : zD} (hD : ∀ i, -2147483648 ≤ D.2 i ∧ D.2 i ≤ 2147483647) (hN : D.1 < 2147483648) {h : zH} {i : Int} (h0 : 0 ≤ i) (h6 : i + 6 ≤ (D.1 : Int)) (hZ : lZ D h) (hR : fR h) : lStp D h i 1278 := by
  obtain ⟨h1, v1, z1, hZ1, f1⟩ := lc_179 hD hZ (bs := [(0, D.2 (i + 1).toNat), (0, D.2 (i + 2).toNat)]) ⟨⟨rfl, hD _⟩, ⟨⟨rfl, hD _⟩, trivial⟩⟩
  obtain ⟨h2, v2, z2, hZ2, f2⟩ := lc_309 hD hZ1 (bs := [(0, D.2 (i + 1).toNat), (0, D.2 (i + 2).toNat)]) ⟨⟨rfl, hD _⟩, ⟨⟨rfl, hD _⟩, trivial⟩⟩
  have hR2 : fR h2 := fR_S.fr (M := lM_309) (by decide +kernel) f2 (fR_S.fr (M := lM_179) (by decide +kernel) f1 hR)
  refine ⟨h2, hZ2, hR2, fun zr k => ?_⟩
  refine hq_load (hm_L _ _ rfl) rfl rfl ?_
  refine hl_arg (c := 1) (hm_L _ _ rfl) (hm_L _ _ rfl) (hm_L _ _ rfl) (hm_L _ _ rfl) (hm_L _ _ rfl) h0 (by omega) (by omega) hN ?_
  refine hl_arg (c := 2) (hm_L _ _ rfl) (hm_L _ _ rfl) (hm_L _ _ rfl) (hm_L _ _ rfl) (hm_L _ _ rfl) h0 (by omega) (by omega) hN ?_
  refine hq_call (hm_L _ _ rfl) rfl ⟨Nat.le_of_ble_eq_true rfl, Nat.le_of_ble_eq_true rfl, fun _ => rfl⟩ z1 ?_
  refine hq_pop (hm_L _ _ rfl) rfl ?_
  refine hq_load (hm_L _ _ rfl) rfl rfl ?_
  refine hl_arg (c := 1) (hm_L _ _ rfl) (hm_L _ _ rfl) (hm_L _ _ rfl) (hm_L _ _ rfl) (hm_L _ _ rfl) h0 (by omega) (by omega) hN ?_
  refine hl_arg (c := 2) (hm_L _ _ rfl) (hm_L _ _ rfl) (hm_L _ _ rfl) (hm_L _ _ rfl) (hm_L _ _ rfl) h0 (by omega) (by omega) hN ?_
  refine hq_call (hm_L _ _ rfl) rfl ⟨Nat.le_of_ble_eq_true rfl, Nat.le_of_ble_eq_true rfl, fun _ => rfl⟩ z2 ?_
  refine hq_pop (hm_L _ _ rfl) rfl ?_
  refine hq_goto (hm_L _ _ rfl) ?_
  refine hq_iincZ (u := 6) (hm_L _ _ rfl) rfl rfl (hq_inc (by omega) (by omega)) ?_
  rw [Lv_inc]
  refine hq_goto (hm_L _ _ rfl) ?_
  exact k
theorem lw_33 {D : zD} (hD : ∀ i, -2147483648 ≤ D.2 i ∧ D.2 i ≤ 2147483647) (hN : D.1 < 2147483648) {h : zH} {i : Int} (h0 : 0 ≤ i) (h6 : i + 6 ≤ (D.1 : Int)) (hZ : lZ D h) (hR : fR h) : lStp D h i 1311 := by
  obtain ⟨h1, v1, z1, hZ1, f1⟩ := lc_184 hD hZ (bs := [(0, D.2 (i + 1).toNat), (0, D.2 (i + 2).toNat), (0, D.2 (i + 3).toNat)]) ⟨⟨rfl, hD _⟩, ⟨⟨rfl, hD _⟩, ⟨⟨rfl, hD _⟩, trivial⟩⟩⟩
  obtain ⟨h2, v2, z2, hZ2, f2⟩ := lc_321 hD hZ1 (bs := [(0, D.2 (i + 1).toNat), (0, D.2 (i + 2).toNat), (0, D.2 (i + 3).toNat)]) ⟨⟨rfl, hD _⟩, ⟨⟨rfl, hD _⟩, ⟨⟨rfl, hD _⟩, trivial⟩⟩⟩
  have hR2 : fR h2 := (fRw_supper hD hZ hZ1 hR z1 f1 z2 f2).1
  refine ⟨h2, hZ2, hR2, fun zr k => ?_⟩
  refine hq_load (hm_L _ _ rfl) rfl rfl ?_
  refine hl_arg (c := 1) (hm_L _ _ rfl) (hm_L _ _ rfl) (hm_L _ _ rfl) (hm_L _ _ rfl) (hm_L _ _ rfl) h0 (by omega) (by omega) hN ?_
  refine hl_arg (c := 2) (hm_L _ _ rfl) (hm_L _ _ rfl) (hm_L _ _ rfl) (hm_L _ _ rfl) (hm_L _ _ rfl) h0 (by omega) (by omega) hN ?_
  refine hl_arg (c := 3) (hm_L _ _ rfl) (hm_L _ _ rfl) (hm_L _ _ rfl) (hm_L _ _ rfl) (hm_L _ _ rfl) h0 (by omega) (by omega) hN ?_
  refine hq_call (hm_L _ _ rfl) rfl ⟨Nat.le_of_ble_eq_true rfl, Nat.le_of_ble_eq_true rfl, fun _ => rfl⟩ z1 ?_
  refine hq_pop (hm_L _ _ rfl) rfl ?_
  refine hq_load (hm_L _ _ rfl) rfl rfl ?_
  refine hl_arg (c := 1) (hm_L _ _ rfl) (hm_L _ _ rfl) (hm_L _ _ rfl) (hm_L _ _ rfl) (hm_L _ _ rfl) h0 (by omega) (by omega) hN ?_
  refine hl_arg (c := 2) (hm_L _ _ rfl) (hm_L _ _ rfl) (hm_L _ _ rfl) (hm_L _ _ rfl) (hm_L _ _ rfl) h0 (by omega) (by omega) hN ?_
  refine hl_arg (c := 3) (hm_L _ _ rfl) (hm_L _ _ rfl) (hm_L _ _ rfl) (hm_L _ _ rfl) (hm_L _ _ rfl) h0 (by omega) (by omega) hN ?_
  refine hq_call (hm_L _ _ rfl) rfl ⟨Nat.le_of_ble_eq_true rfl, Nat.le_of_ble_eq_true rfl, fun _ => rfl⟩ z2 ?_
  refine hq_pop (hm_L _ _ rfl) rfl ?_
  refine hq_goto (hm_L _ _ rfl) ?_
  refine hq_iincZ (u := 6) (hm_L _ _ rfl) rfl rfl (hq_inc (by omega) (by omega)) ?_
  rw [Lv_inc]
  refine hq_goto (hm_L _ _ rfl) ?_
  exact k
theorem lw_34 {D : zD} (hD : ∀ i, -2147483648 ≤ D.2 i ∧ D.2 i ≤ 2147483647) (hN : D.1 < 2147483648) {h : zH} {i : Int} (h0 : 0 ≤ i) (h6 : i + 6 ≤ (D.1 : Int)) (hZ : lZ D h) (hR : fR h) : lStp D h i 1354 := by
  obtain ⟨h1, v1, z1, hZ1, f1⟩ := lc_153 hD hZ (bs := [(0, D.2 (i + 1).toNat)]) ⟨⟨rfl, hD _⟩, trivial⟩
  obtain ⟨h2, v2, z2, hZ2, f2⟩ := lc_217 hD hZ1 (bs := [(0, D.2 (i + 1).toNat)]) ⟨⟨rfl, hD _⟩, trivial⟩
  have hR2 : fR h2 := (fRw_cut hD hZ hZ1 hR z1 f1 z2 f2).1
  refine ⟨h2, hZ2, hR2, fun zr k => ?_⟩
  refine hq_load (hm_L _ _ rfl) rfl rfl ?_
  refine hl_arg (c := 1) (hm_L _ _ rfl) (hm_L _ _ rfl) (hm_L _ _ rfl) (hm_L _ _ rfl) (hm_L _ _ rfl) h0 (by omega) (by omega) hN ?_
  refine hq_call (hm_L _ _ rfl) rfl ⟨Nat.le_of_ble_eq_true rfl, Nat.le_of_ble_eq_true rfl, fun _ => rfl⟩ z1 ?_
  refine hq_pop (hm_L _ _ rfl) rfl ?_
  refine hq_load (hm_L _ _ rfl) rfl rfl ?_
  refine hl_arg (c := 1) (hm_L _ _ rfl) (hm_L _ _ rfl) (hm_L _ _ rfl) (hm_L _ _ rfl) (hm_L _ _ rfl) h0 (by omega) (by omega) hN ?_
  refine hq_call (hm_L _ _ rfl) rfl ⟨Nat.le_of_ble_eq_true rfl, Nat.le_of_ble_eq_true rfl, fun _ => rfl⟩ z2 ?_
  refine hq_pop (hm_L _ _ rfl) rfl ?_
  refine hq_goto (hm_L _ _ rfl) ?_
  refine hq_iincZ (u := 6) (hm_L _ _ rfl) rfl rfl (hq_inc (by omega) (by omega)) ?_
  rw [Lv_inc]
  refine hq_goto (hm_L _ _ rfl) ?_
  exact k
theorem lw_35 {D : zD} (hD : ∀ i, -2147483648 ≤ D.2 i ∧ D.2 i ≤ 2147483647) (hN : D.1 < 2147483648) {h : zH} {i : Int} (h0 : 0 ≤ i) (h6 : i + 6 ≤ (D.1 : Int)) (hZ : lZ D h) (hR : fR h) : lStp D h i 1377 := by
  obtain ⟨h1, v1, z1, hZ1, f1⟩ := lc_194 hD hZ (bs := [(0, D.2 (i + 1).toNat), (0, D.2 (i + 2).toNat), (0, D.2 (i + 3).toNat)]) ⟨⟨rfl, hD _⟩, ⟨⟨rfl, hD _⟩, ⟨⟨rfl, hD _⟩, trivial⟩⟩⟩
  obtain ⟨h2, v2, z2, hZ2, f2⟩ := lc_337 hD hZ1 (bs := [(0, D.2 (i + 1).toNat), (0, D.2 (i + 2).toNat), (0, D.2 (i + 3).toNat)]) ⟨⟨rfl, hD _⟩, ⟨⟨rfl, hD _⟩, ⟨⟨rfl, hD _⟩, trivial⟩⟩⟩
  have hR2 : fR h2 := (fRw_worth hD hZ hZ1 hR z1 f1 z2 f2).1
  refine ⟨h2, hZ2, hR2, fun zr k => ?_⟩
  refine hq_load (hm_L _ _ rfl) rfl rfl ?_
  refine hl_arg (c := 1) (hm_L _ _ rfl) (hm_L _ _ rfl) (hm_L _ _ rfl) (hm_L _ _ rfl) (hm_L _ _ rfl) h0 (by omega) (by omega) hN ?_
  refine hl_arg (c := 2) (hm_L _ _ rfl) (hm_L _ _ rfl) (hm_L _ _ rfl) (hm_L _ _ rfl) (hm_L _ _ rfl) h0 (by omega) (by omega) hN ?_
  refine hl_arg (c := 3) (hm_L _ _ rfl) (hm_L _ _ rfl) (hm_L _ _ rfl) (hm_L _ _ rfl) (hm_L _ _ rfl) h0 (by omega) (by omega) hN ?_
  refine hq_call (hm_L _ _ rfl) rfl ⟨Nat.le_of_ble_eq_true rfl, Nat.le_of_ble_eq_true rfl, fun _ => rfl⟩ z1 ?_
  refine hq_pop (hm_L _ _ rfl) rfl ?_
  refine hq_load (hm_L _ _ rfl) rfl rfl ?_
  refine hl_arg (c := 1) (hm_L _ _ rfl) (hm_L _ _ rfl) (hm_L _ _ rfl) (hm_L _ _ rfl) (hm_L _ _ rfl) h0 (by omega) (by omega) hN ?_
  refine hl_arg (c := 2) (hm_L _ _ rfl) (hm_L _ _ rfl) (hm_L _ _ rfl) (hm_L _ _ rfl) (hm_L _ _ rfl) h0 (by omega) (by omega) hN ?_
  refine hl_arg (c := 3) (hm_L _ _ rfl) (hm_L _ _ rfl) (hm_L _ _ rfl) (hm_L _ _ rfl) (hm_L _ _ rfl) h0 (by omega) (by omega) hN ?_
  refine hq_call (hm_L _ _ rfl) rfl ⟨Nat.le_of_ble_eq_true rfl, Nat.le_of_ble_eq_true rfl, fun _ => rfl⟩ z2 ?_
  refine hq_pop (hm_L _ _ rfl) rfl ?_
  refine hq_goto (hm_L _ _ rfl) ?_
  refine hq_iincZ (u := 6) (hm_L _ _ rfl) rfl rfl (hq_inc (by omega) (by omega)) ?_
  rw [Lv_inc]
  refine hq_goto (hm_L _ _ rfl) ?_
  exact k
theorem lw_36 {D : zD} (hD : ∀ i, -2147483648 ≤ D.2 i ∧ D.2 i ≤ 2147483647) (hN : D.1 < 2147483648) {h : zH} {i : Int} (h0 : 0 ≤ i) (h6 : i + 6 ≤ (D.1 : Int)) (hZ : lZ D h) (hR : fR h) : lStp D h i 1420 := by
  obtain ⟨h1, v1, z1, hZ1, f1⟩ := lc_167 hD hZ (bs := [(0, D.2 (i + 1).toNat), (0, D.2 (i + 2).toNat)]) ⟨⟨rfl, hD _⟩, ⟨⟨rfl, hD _⟩, trivial⟩⟩
  obtain ⟨h2, v2, z2, hZ2, f2⟩ := lc_278 hD hZ1 (bs := [(0, D.2 (i + 1).toNat), (0, D.2 (i + 2).toNat)]) ⟨⟨rfl, hD _⟩, ⟨⟨rfl, hD _⟩, trivial⟩⟩
  have hR2 : fR h2 := (fRw_mostWorth hD hZ hZ1 hR z1 f1 z2 f2).1
  refine ⟨h2, hZ2, hR2, fun zr k => ?_⟩
  refine hq_load (hm_L _ _ rfl) rfl rfl ?_
  refine hl_arg (c := 1) (hm_L _ _ rfl) (hm_L _ _ rfl) (hm_L _ _ rfl) (hm_L _ _ rfl) (hm_L _ _ rfl) h0 (by omega) (by omega) hN ?_
  refine hl_arg (c := 2) (hm_L _ _ rfl) (hm_L _ _ rfl) (hm_L _ _ rfl) (hm_L _ _ rfl) (hm_L _ _ rfl) h0 (by omega) (by omega) hN ?_
  refine hq_call (hm_L _ _ rfl) rfl ⟨Nat.le_of_ble_eq_true rfl, Nat.le_of_ble_eq_true rfl, fun _ => rfl⟩ z1 ?_
  refine hq_pop (hm_L _ _ rfl) rfl ?_
  refine hq_load (hm_L _ _ rfl) rfl rfl ?_
  refine hl_arg (c := 1) (hm_L _ _ rfl) (hm_L _ _ rfl) (hm_L _ _ rfl) (hm_L _ _ rfl) (hm_L _ _ rfl) h0 (by omega) (by omega) hN ?_
  refine hl_arg (c := 2) (hm_L _ _ rfl) (hm_L _ _ rfl) (hm_L _ _ rfl) (hm_L _ _ rfl) (hm_L _ _ rfl) h0 (by omega) (by omega) hN ?_
  refine hq_call (hm_L _ _ rfl) rfl ⟨Nat.le_of_ble_eq_true rfl, Nat.le_of_ble_eq_true rfl, fun _ => rfl⟩ z2 ?_
  refine hq_pop (hm_L _ _ rfl) rfl ?_
  refine hq_goto (hm_L _ _ rfl) ?_
  refine hq_iincZ (u := 6) (hm_L _ _ rfl) rfl rfl (hq_inc (by omega) (by omega)) ?_
  rw [Lv_inc]
  refine hq_goto (hm_L _ _ rfl) ?_
  exact k
theorem lw_37 {D : zD} (hD : ∀ i, -2147483648 ≤ D.2 i ∧ D.2 i ≤ 2147483647) (hN : D.1 < 2147483648) {h : zH} {i : Int} (h0 : 0 ≤ i) (h6 : i + 6 ≤ (D.1 : Int)) (hZ : lZ D h) (hR : fR h) : lStp D h i 1453 := by
  obtain ⟨h1, v1, z1, hZ1, f1⟩ := lc_186 hD hZ (bs := [(0, D.2 (i + 1).toNat), (0, D.2 (i + 2).toNat)]) ⟨⟨rfl, hD _⟩, ⟨⟨rfl, hD _⟩, trivial⟩⟩
  obtain ⟨h2, v2, z2, hZ2, f2⟩ := lc_327 hD hZ1 (bs := [(0, D.2 (i + 1).toNat), (0, D.2 (i + 2).toNat)]) ⟨⟨rfl, hD _⟩, ⟨⟨rfl, hD _⟩, trivial⟩⟩
  have hR2 : fR h2 := fR_S.fr (M := lM_327) (by decide +kernel) f2 (fR_S.fr (M := lM_186) (by decide +kernel) f1 hR)
  refine ⟨h2, hZ2, hR2, fun zr k => ?_⟩
  refine hq_load (hm_L _ _ rfl) rfl rfl ?_
  refine hl_arg (c := 1) (hm_L _ _ rfl) (hm_L _ _ rfl) (hm_L _ _ rfl) (hm_L _ _ rfl) (hm_L _ _ rfl) h0 (by omega) (by omega) hN ?_
  refine hl_arg (c := 2) (hm_L _ _ rfl) (hm_L _ _ rfl) (hm_L _ _ rfl) (hm_L _ _ rfl) (hm_L _ _ rfl) h0 (by omega) (by omega) hN ?_
  refine hq_call (hm_L _ _ rfl) rfl ⟨Nat.le_of_ble_eq_true rfl, Nat.le_of_ble_eq_true rfl, fun _ => rfl⟩ z1 ?_
  refine hq_pop2 (hm_L _ _ rfl) rfl ?_
  refine hq_load (hm_L _ _ rfl) rfl rfl ?_
  refine hl_arg (c := 1) (hm_L _ _ rfl) (hm_L _ _ rfl) (hm_L _ _ rfl) (hm_L _ _ rfl) (hm_L _ _ rfl) h0 (by omega) (by omega) hN ?_
  refine hl_arg (c := 2) (hm_L _ _ rfl) (hm_L _ _ rfl) (hm_L _ _ rfl) (hm_L _ _ rfl) (hm_L _ _ rfl) h0 (by omega) (by omega) hN ?_
  refine hq_call (hm_L _ _ rfl) rfl ⟨Nat.le_of_ble_eq_true rfl, Nat.le_of_ble_eq_true rfl, fun _ => rfl⟩ z2 ?_
  refine hq_pop2 (hm_L _ _ rfl) rfl ?_
  refine hq_goto (hm_L _ _ rfl) ?_
  refine hq_iincZ (u := 6) (hm_L _ _ rfl) rfl rfl (hq_inc (by omega) (by omega)) ?_
  rw [Lv_inc]
  refine hq_goto (hm_L _ _ rfl) ?_
  exact k
theorem lw_38 {D : zD} (hD : ∀ i, -2147483648 ≤ D.2 i ∧ D.2 i ≤ 2147483647) (hN : D.1 < 2147483648) {h : zH} {i : Int} (h0 : 0 ≤ i) (h6 : i + 6 ≤ (D.1 : Int)) (hZ : lZ D h) (hR : fR h) : lStp D h i 1486 := by
  obtain ⟨h1, v1, z1, hZ1, f1⟩ := lc_157 hD hZ (bs := [(0, D.2 (i + 1).toNat), (0, D.2 (i + 2).toNat), (0, D.2 (i + 3).toNat)]) ⟨⟨rfl, hD _⟩, ⟨⟨rfl, hD _⟩, ⟨⟨rfl, hD _⟩, trivial⟩⟩⟩
  obtain ⟨h2, v2, z2, hZ2, f2⟩ := lc_235 hD hZ1 (bs := [(0, D.2 (i + 1).toNat), (0, D.2 (i + 2).toNat), (0, D.2 (i + 3).toNat)]) ⟨⟨rfl, hD _⟩, ⟨⟨rfl, hD _⟩, ⟨⟨rfl, hD _⟩, trivial⟩⟩⟩
  have hR2 : fR h2 := fR_S.fr (M := lM_235) (by decide +kernel) f2 (fR_S.fr (M := lM_157) (by decide +kernel) f1 hR)
  refine ⟨h2, hZ2, hR2, fun zr k => ?_⟩
  refine hq_load (hm_L _ _ rfl) rfl rfl ?_
  refine hl_arg (c := 1) (hm_L _ _ rfl) (hm_L _ _ rfl) (hm_L _ _ rfl) (hm_L _ _ rfl) (hm_L _ _ rfl) h0 (by omega) (by omega) hN ?_
  refine hl_arg (c := 2) (hm_L _ _ rfl) (hm_L _ _ rfl) (hm_L _ _ rfl) (hm_L _ _ rfl) (hm_L _ _ rfl) h0 (by omega) (by omega) hN ?_
  refine hl_arg (c := 3) (hm_L _ _ rfl) (hm_L _ _ rfl) (hm_L _ _ rfl) (hm_L _ _ rfl) (hm_L _ _ rfl) h0 (by omega) (by omega) hN ?_
  refine hq_call (hm_L _ _ rfl) rfl ⟨Nat.le_of_ble_eq_true rfl, Nat.le_of_ble_eq_true rfl, fun _ => rfl⟩ z1 ?_
  refine hq_pop (hm_L _ _ rfl) rfl ?_
  refine hq_load (hm_L _ _ rfl) rfl rfl ?_
  refine hl_arg (c := 1) (hm_L _ _ rfl) (hm_L _ _ rfl) (hm_L _ _ rfl) (hm_L _ _ rfl) (hm_L _ _ rfl) h0 (by omega) (by omega) hN ?_
  refine hl_arg (c := 2) (hm_L _ _ rfl) (hm_L _ _ rfl) (hm_L _ _ rfl) (hm_L _ _ rfl) (hm_L _ _ rfl) h0 (by omega) (by omega) hN ?_
  refine hl_arg (c := 3) (hm_L _ _ rfl) (hm_L _ _ rfl) (hm_L _ _ rfl) (hm_L _ _ rfl) (hm_L _ _ rfl) h0 (by omega) (by omega) hN ?_
  refine hq_call (hm_L _ _ rfl) rfl ⟨Nat.le_of_ble_eq_true rfl, Nat.le_of_ble_eq_true rfl, fun _ => rfl⟩ z2 ?_
  refine hq_pop (hm_L _ _ rfl) rfl ?_
  refine hq_goto (hm_L _ _ rfl) ?_
  refine hq_iincZ (u := 6) (hm_L _ _ rfl) rfl rfl (hq_inc (by omega) (by omega)) ?_
  rw [Lv_inc]
  refine hq_goto (hm_L _ _ rfl) ?_
  exact k
theorem lw_39 {D : zD} (hD : ∀ i, -2147483648 ≤ D.2 i ∧ D.2 i ≤ 2147483647) (hN : D.1 < 2147483648) {h : zH} {i : Int} (h0 : 0 ≤ i) (h6 : i + 6 ≤ (D.1 : Int)) (hZ : lZ D h) (hR : fR h) : lStp D h i 1529 := by
  obtain ⟨h1, v1, z1, hZ1, f1⟩ := lc_169 hD hZ (bs := [(0, D.2 (i + 1).toNat), (0, D.2 (i + 2).toNat), (0, D.2 (i + 3).toNat), (0, D.2 (i + 4).toNat), (0, D.2 (i + 5).toNat)]) ⟨⟨rfl, hD _⟩, ⟨⟨rfl, hD _⟩, ⟨⟨rfl, hD _⟩, ⟨⟨rfl, hD _⟩, ⟨⟨rfl, hD _⟩, trivial⟩⟩⟩⟩⟩
  obtain ⟨h2, v2, z2, hZ2, f2⟩ := lc_287 hD hZ1 (bs := [(0, D.2 (i + 1).toNat), (0, D.2 (i + 2).toNat), (0, D.2 (i + 3).toNat), (0, D.2 (i + 4).toNat), (0, D.2 (i + 5).toNat)]) ⟨⟨rfl, hD _⟩, ⟨⟨rfl, hD _⟩, ⟨⟨rfl, hD _⟩, ⟨⟨rfl, hD _⟩, ⟨⟨rfl, hD _⟩, trivial⟩⟩⟩⟩⟩
  have hR2 : fR h2 := fR_S.fr (M := lM_287) (by decide +kernel) f2 (fR_S.fr (M := lM_169) (by decide +kernel) f1 hR)
  refine ⟨h2, hZ2, hR2, fun zr k => ?_⟩
  refine hq_load (hm_L _ _ rfl) rfl rfl ?_
  refine hl_arg (c := 1) (hm_L _ _ rfl) (hm_L _ _ rfl) (hm_L _ _ rfl) (hm_L _ _ rfl) (hm_L _ _ rfl) h0 (by omega) (by omega) hN ?_
  refine hl_arg (c := 2) (hm_L _ _ rfl) (hm_L _ _ rfl) (hm_L _ _ rfl) (hm_L _ _ rfl) (hm_L _ _ rfl) h0 (by omega) (by omega) hN ?_
  refine hl_arg (c := 3) (hm_L _ _ rfl) (hm_L _ _ rfl) (hm_L _ _ rfl) (hm_L _ _ rfl) (hm_L _ _ rfl) h0 (by omega) (by omega) hN ?_
  refine hl_arg (c := 4) (hm_L _ _ rfl) (hm_L _ _ rfl) (hm_L _ _ rfl) (hm_L _ _ rfl) (hm_L _ _ rfl) h0 (by omega) (by omega) hN ?_
  refine hl_arg (c := 5) (hm_L _ _ rfl) (hm_L _ _ rfl) (hm_L _ _ rfl) (hm_L _ _ rfl) (hm_L _ _ rfl) h0 (by omega) (by omega) hN ?_
  refine hq_call (hm_L _ _ rfl) rfl ⟨Nat.le_of_ble_eq_true rfl, Nat.le_of_ble_eq_true rfl, fun _ => rfl⟩ z1 ?_
  refine hq_pop (hm_L _ _ rfl) rfl ?_
  refine hq_load (hm_L _ _ rfl) rfl rfl ?_
  refine hl_arg (c := 1) (hm_L _ _ rfl) (hm_L _ _ rfl) (hm_L _ _ rfl) (hm_L _ _ rfl) (hm_L _ _ rfl) h0 (by omega) (by omega) hN ?_
  refine hl_arg (c := 2) (hm_L _ _ rfl) (hm_L _ _ rfl) (hm_L _ _ rfl) (hm_L _ _ rfl) (hm_L _ _ rfl) h0 (by omega) (by omega) hN ?_
  refine hl_arg (c := 3) (hm_L _ _ rfl) (hm_L _ _ rfl) (hm_L _ _ rfl) (hm_L _ _ rfl) (hm_L _ _ rfl) h0 (by omega) (by omega) hN ?_
  refine hl_arg (c := 4) (hm_L _ _ rfl) (hm_L _ _ rfl) (hm_L _ _ rfl) (hm_L _ _ rfl) (hm_L _ _ rfl) h0 (by omega) (by omega) hN ?_
  refine hl_arg (c := 5) (hm_L _ _ rfl) (hm_L _ _ rfl) (hm_L _ _ rfl) (hm_L _ _ rfl) (hm_L _ _ rfl) h0 (by omega) (by omega) hN ?_
  refine hq_call (hm_L _ _ rfl) rfl ⟨Nat.le_of_ble_eq_true rfl, Nat.le_of_ble_eq_true rfl, fun _ => rfl⟩ z2 ?_
  refine hq_pop (hm_L _ _ rfl) rfl ?_
  refine hq_goto (hm_L _ _ rfl) ?_
  refine hq_iincZ (u := 6) (hm_L _ _ rfl) rfl rfl (hq_inc (by omega) (by omega)) ?_
  rw [Lv_inc]
  refine hq_goto (hm_L _ _ rfl) ?_
  exact k
theorem lw_40 {D : zD} (hD : ∀ i, -2147483648 ≤ D.2 i ∧ D.2 i ≤ 2147483647) (hN : D.1 < 2147483648) {h : zH} {i : Int} (h0 : 0 ≤ i) (h6 : i + 6 ≤ (D.1 : Int)) (hZ : lZ D h) (hR : fR h) : lStp D h i 1592 := by
  obtain ⟨h1, v1, z1, hZ1, f1⟩ := lc_166 hD hZ (bs := [(0, D.2 (i + 1).toNat), (0, D.2 (i + 2).toNat), (0, D.2 (i + 3).toNat)]) ⟨⟨rfl, hD _⟩, ⟨⟨rfl, hD _⟩, ⟨⟨rfl, hD _⟩, trivial⟩⟩⟩
  obtain ⟨h2, v2, z2, hZ2, f2⟩ := lc_277 hD hZ1 (bs := [(0, D.2 (i + 1).toNat), (0, D.2 (i + 2).toNat), (0, D.2 (i + 3).toNat)]) ⟨⟨rfl, hD _⟩, ⟨⟨rfl, hD _⟩, ⟨⟨rfl, hD _⟩, trivial⟩⟩⟩
  have hR2 : fR h2 := fR_S.fr (M := lM_277) (by decide +kernel) f2 (fR_S.fr (M := lM_166) (by decide +kernel) f1 hR)
  refine ⟨h2, hZ2, hR2, fun zr k => ?_⟩
  refine hq_load (hm_L _ _ rfl) rfl rfl ?_
  refine hl_arg (c := 1) (hm_L _ _ rfl) (hm_L _ _ rfl) (hm_L _ _ rfl) (hm_L _ _ rfl) (hm_L _ _ rfl) h0 (by omega) (by omega) hN ?_
  refine hl_arg (c := 2) (hm_L _ _ rfl) (hm_L _ _ rfl) (hm_L _ _ rfl) (hm_L _ _ rfl) (hm_L _ _ rfl) h0 (by omega) (by omega) hN ?_
  refine hl_arg (c := 3) (hm_L _ _ rfl) (hm_L _ _ rfl) (hm_L _ _ rfl) (hm_L _ _ rfl) (hm_L _ _ rfl) h0 (by omega) (by omega) hN ?_
  refine hq_call (hm_L _ _ rfl) rfl ⟨Nat.le_of_ble_eq_true rfl, Nat.le_of_ble_eq_true rfl, fun _ => rfl⟩ z1 ?_
  refine hq_pop (hm_L _ _ rfl) rfl ?_
  refine hq_load (hm_L _ _ rfl) rfl rfl ?_
  refine hl_arg (c := 1) (hm_L _ _ rfl) (hm_L _ _ rfl) (hm_L _ _ rfl) (hm_L _ _ rfl) (hm_L _ _ rfl) h0 (by omega) (by omega) hN ?_
  refine hl_arg (c := 2) (hm_L _ _ rfl) (hm_L _ _ rfl) (hm_L _ _ rfl) (hm_L _ _ rfl) (hm_L _ _ rfl) h0 (by omega) (by omega) hN ?_
  refine hl_arg (c := 3) (hm_L _ _ rfl) (hm_L _ _ rfl) (hm_L _ _ rfl) (hm_L _ _ rfl) (hm_L _ _ rfl) h0 (by omega) (by omega) hN ?_
  refine hq_call (hm_L _ _ rfl) rfl ⟨Nat.le_of_ble_eq_true rfl, Nat.le_of_ble_eq_true rfl, fun _ => rfl⟩ z2 ?_
  refine hq_pop (hm_L _ _ rfl) rfl ?_
  refine hq_goto (hm_L _ _ rfl) ?_
  refine hq_iincZ (u := 6) (hm_L _ _ rfl) rfl rfl (hq_inc (by omega) (by omega)) ?_
  rw [Lv_inc]
  refine hq_goto (hm_L _ _ rfl) ?_
  exact k
theorem lw_41 {D : zD} (hD : ∀ i, -2147483648 ≤ D.2 i ∧ D.2 i ≤ 2147483647) (hN : D.1 < 2147483648) {h : zH} {i : Int} (h0 : 0 ≤ i) (h6 : i + 6 ≤ (D.1 : Int)) (hZ : lZ D h) (hR : fR h) : lStp D h i 1635 := by
  obtain ⟨h1, v1, z1, hZ1, f1⟩ := lc_178 hD hZ (bs := [(0, D.2 (i + 1).toNat)]) ⟨⟨rfl, hD _⟩, trivial⟩
  obtain ⟨h2, v2, z2, hZ2, f2⟩ := lc_307 hD hZ1 (bs := [(0, D.2 (i + 1).toNat)]) ⟨⟨rfl, hD _⟩, trivial⟩
  have hR2 : fR h2 := (fRk_run hD hZ hZ1 hR z1 f1 z2 f2).1
  refine ⟨h2, hZ2, hR2, fun zr k => ?_⟩
  refine hq_load (hm_L _ _ rfl) rfl rfl ?_
  refine hl_arg (c := 1) (hm_L _ _ rfl) (hm_L _ _ rfl) (hm_L _ _ rfl) (hm_L _ _ rfl) (hm_L _ _ rfl) h0 (by omega) (by omega) hN ?_
  refine hq_call (hm_L _ _ rfl) rfl ⟨Nat.le_of_ble_eq_true rfl, Nat.le_of_ble_eq_true rfl, fun _ => rfl⟩ z1 ?_
  refine hq_pop (hm_L _ _ rfl) rfl ?_
  refine hq_load (hm_L _ _ rfl) rfl rfl ?_
  refine hl_arg (c := 1) (hm_L _ _ rfl) (hm_L _ _ rfl) (hm_L _ _ rfl) (hm_L _ _ rfl) (hm_L _ _ rfl) h0 (by omega) (by omega) hN ?_
  refine hq_call (hm_L _ _ rfl) rfl ⟨Nat.le_of_ble_eq_true rfl, Nat.le_of_ble_eq_true rfl, fun _ => rfl⟩ z2 ?_
  refine hq_pop (hm_L _ _ rfl) rfl ?_
  refine hq_goto (hm_L _ _ rfl) ?_
  refine hq_iincZ (u := 6) (hm_L _ _ rfl) rfl rfl (hq_inc (by omega) (by omega)) ?_
  rw [Lv_inc]
  refine hq_goto (hm_L _ _ rfl) ?_
  exact k
theorem lw_42 {D : zD} (hD : ∀ i, -2147483648 ≤ D.2 i ∧ D.2 i ≤ 2147483647) (hN : D.1 < 2147483648) {h : zH} {i : Int} (h0 : 0 ≤ i) (h6 : i + 6 ≤ (D.1 : Int)) (hZ : lZ D h) (hR : fR h) : lStp D h i 1658 := by
  obtain ⟨h1, v1, z1, hZ1, f1⟩ := lc_173 hD hZ (bs := [(0, D.2 (i + 1).toNat)]) ⟨⟨rfl, hD _⟩, trivial⟩
  obtain ⟨h2, v2, z2, hZ2, f2⟩ := lc_292 hD hZ1 (bs := [(0, D.2 (i + 1).toNat)]) ⟨⟨rfl, hD _⟩, trivial⟩
  have hR2 : fR h2 := fR_S.fr (M := lM_292) (by decide +kernel) f2 (fR_S.fr (M := lM_173) (by decide +kernel) f1 hR)
  refine ⟨h2, hZ2, hR2, fun zr k => ?_⟩
  refine hq_load (hm_L _ _ rfl) rfl rfl ?_
  refine hl_arg (c := 1) (hm_L _ _ rfl) (hm_L _ _ rfl) (hm_L _ _ rfl) (hm_L _ _ rfl) (hm_L _ _ rfl) h0 (by omega) (by omega) hN ?_
  refine hq_call (hm_L _ _ rfl) rfl ⟨Nat.le_of_ble_eq_true rfl, Nat.le_of_ble_eq_true rfl, fun _ => rfl⟩ z1 ?_
  refine hq_pop (hm_L _ _ rfl) rfl ?_
  refine hq_load (hm_L _ _ rfl) rfl rfl ?_
  refine hl_arg (c := 1) (hm_L _ _ rfl) (hm_L _ _ rfl) (hm_L _ _ rfl) (hm_L _ _ rfl) (hm_L _ _ rfl) h0 (by omega) (by omega) hN ?_
  refine hq_call (hm_L _ _ rfl) rfl ⟨Nat.le_of_ble_eq_true rfl, Nat.le_of_ble_eq_true rfl, fun _ => rfl⟩ z2 ?_
  refine hq_pop (hm_L _ _ rfl) rfl ?_
  refine hq_goto (hm_L _ _ rfl) ?_
  refine hq_iincZ (u := 6) (hm_L _ _ rfl) rfl rfl (hq_inc (by omega) (by omega)) ?_
  rw [Lv_inc]
  refine hq_goto (hm_L _ _ rfl) ?_
  exact k
theorem lw_43 {D : zD} (hD : ∀ i, -2147483648 ≤ D.2 i ∧ D.2 i ≤ 2147483647) (hN : D.1 < 2147483648) {h : zH} {i : Int} (h0 : 0 ≤ i) (h6 : i + 6 ≤ (D.1 : Int)) (hZ : lZ D h) (hR : fR h) : lStp D h i 1681 := by
  obtain ⟨h1, v1, z1, hZ1, f1⟩ := lc_143 hD hZ (bs := [(0, D.2 (i + 1).toNat), (0, D.2 (i + 2).toNat), (0, D.2 (i + 3).toNat)]) ⟨⟨rfl, hD _⟩, ⟨⟨rfl, hD _⟩, ⟨⟨rfl, hD _⟩, trivial⟩⟩⟩
  obtain ⟨h2, v2, z2, hZ2, f2⟩ := lc_196 hD hZ1 (bs := [(0, D.2 (i + 1).toNat), (0, D.2 (i + 2).toNat), (0, D.2 (i + 3).toNat)]) ⟨⟨rfl, hD _⟩, ⟨⟨rfl, hD _⟩, ⟨⟨rfl, hD _⟩, trivial⟩⟩⟩
  have hR2 : fR h2 := (fRk_arrivals hD hZ hZ1 hR z1 f1 z2 f2).1
  refine ⟨h2, hZ2, hR2, fun zr k => ?_⟩
  refine hq_load (hm_L _ _ rfl) rfl rfl ?_
  refine hl_arg (c := 1) (hm_L _ _ rfl) (hm_L _ _ rfl) (hm_L _ _ rfl) (hm_L _ _ rfl) (hm_L _ _ rfl) h0 (by omega) (by omega) hN ?_
  refine hl_arg (c := 2) (hm_L _ _ rfl) (hm_L _ _ rfl) (hm_L _ _ rfl) (hm_L _ _ rfl) (hm_L _ _ rfl) h0 (by omega) (by omega) hN ?_
  refine hl_arg (c := 3) (hm_L _ _ rfl) (hm_L _ _ rfl) (hm_L _ _ rfl) (hm_L _ _ rfl) (hm_L _ _ rfl) h0 (by omega) (by omega) hN ?_
  refine hq_call (hm_L _ _ rfl) rfl ⟨Nat.le_of_ble_eq_true rfl, Nat.le_of_ble_eq_true rfl, fun _ => rfl⟩ z1 ?_
  refine hq_pop (hm_L _ _ rfl) rfl ?_
  refine hq_load (hm_L _ _ rfl) rfl rfl ?_
  refine hl_arg (c := 1) (hm_L _ _ rfl) (hm_L _ _ rfl) (hm_L _ _ rfl) (hm_L _ _ rfl) (hm_L _ _ rfl) h0 (by omega) (by omega) hN ?_
  refine hl_arg (c := 2) (hm_L _ _ rfl) (hm_L _ _ rfl) (hm_L _ _ rfl) (hm_L _ _ rfl) (hm_L _ _ rfl) h0 (by omega) (by omega) hN ?_
  refine hl_arg (c := 3) (hm_L _ _ rfl) (hm_L _ _ rfl) (hm_L _ _ rfl) (hm_L _ _ rfl) (hm_L _ _ rfl) h0 (by omega) (by omega) hN ?_
  refine hq_call (hm_L _ _ rfl) rfl ⟨Nat.le_of_ble_eq_true rfl, Nat.le_of_ble_eq_true rfl, fun _ => rfl⟩ z2 ?_
  refine hq_pop (hm_L _ _ rfl) rfl ?_
  refine hq_goto (hm_L _ _ rfl) ?_
  refine hq_iincZ (u := 6) (hm_L _ _ rfl) rfl rfl (hq_inc (by omega) (by omega)) ?_
  rw [Lv_inc]
  refine hq_goto (hm_L _ _ rfl) ?_
  exact k
theorem lw_44 {D : zD} (hD : ∀ i, -2147483648 ≤ D.2 i ∧ D.2 i ≤ 2147483647) (hN : D.1 < 2147483648) {h : zH} {i : Int} (h0 : 0 ≤ i) (h6 : i + 6 ≤ (D.1 : Int)) (hZ : lZ D h) (hR : fR h) : lStp D h i 1724 := by
  obtain ⟨h1, v1, z1, hZ1, f1⟩ := lc_165 hD hZ (bs := []) trivial
  obtain ⟨h2, v2, z2, hZ2, f2⟩ := lc_276 hD hZ1 (bs := []) trivial
  have hR2 : fR h2 := (fRk_mark hD hZ hZ1 hR z1 f1 z2 f2).1
  refine ⟨h2, hZ2, hR2, fun zr k => ?_⟩
  refine hq_load (hm_L _ _ rfl) rfl rfl ?_
  refine hq_call (hm_L _ _ rfl) rfl ⟨Nat.le_of_ble_eq_true rfl, Nat.le_of_ble_eq_true rfl, fun _ => rfl⟩ z1 ?_
  refine hq_pop (hm_L _ _ rfl) rfl ?_
  refine hq_load (hm_L _ _ rfl) rfl rfl ?_
  refine hq_call (hm_L _ _ rfl) rfl ⟨Nat.le_of_ble_eq_true rfl, Nat.le_of_ble_eq_true rfl, fun _ => rfl⟩ z2 ?_
  refine hq_pop (hm_L _ _ rfl) rfl ?_
  refine hq_goto (hm_L _ _ rfl) ?_
  refine hq_iincZ (u := 6) (hm_L _ _ rfl) rfl rfl (hq_inc (by omega) (by omega)) ?_
  rw [Lv_inc]
  refine hq_goto (hm_L _ _ rfl) ?_
  exact k
theorem lw_45 {D : zD} (hD : ∀ i, -2147483648 ≤ D.2 i ∧ D.2 i ≤ 2147483647) (hN : D.1 < 2147483648) {h : zH} {i : Int} (h0 : 0 ≤ i) (h6 : i + 6 ≤ (D.1 : Int)) (hZ : lZ D h) (hR : fR h) : lStp D h i 1737 := by
  obtain ⟨h1, v1, z1, hZ1, f1⟩ := lc_144 hD hZ (bs := []) trivial
  obtain ⟨h2, v2, z2, hZ2, f2⟩ := lc_199 hD hZ1 (bs := []) trivial
  have hR2 : fR h2 := (fRk_back hD hZ hZ1 hR z1 f1 z2 f2).1
  refine ⟨h2, hZ2, hR2, fun zr k => ?_⟩
  refine hq_load (hm_L _ _ rfl) rfl rfl ?_
  refine hq_call (hm_L _ _ rfl) rfl ⟨Nat.le_of_ble_eq_true rfl, Nat.le_of_ble_eq_true rfl, fun _ => rfl⟩ z1 ?_
  refine hq_pop (hm_L _ _ rfl) rfl ?_
  refine hq_load (hm_L _ _ rfl) rfl rfl ?_
  refine hq_call (hm_L _ _ rfl) rfl ⟨Nat.le_of_ble_eq_true rfl, Nat.le_of_ble_eq_true rfl, fun _ => rfl⟩ z2 ?_
  refine hq_pop (hm_L _ _ rfl) rfl ?_
  refine hq_goto (hm_L _ _ rfl) ?_
  refine hq_iincZ (u := 6) (hm_L _ _ rfl) rfl rfl (hq_inc (by omega) (by omega)) ?_
  rw [Lv_inc]
  refine hq_goto (hm_L _ _ rfl) ?_
  exact k
theorem lw_all {D : zD} (hD : ∀ i, -2147483648 ≤ D.2 i ∧ D.2 i ≤ 2147483647) (hN : D.1 < 2147483648) {h : zH} {i : Int} (h0 : 0 ≤ i) (h6 : i + 6 ≤ (D.1 : Int)) (hZ : lZ D h) (hR : fR h) : ∀ q ∈ ([(0, 232), (1, 245), (2, 258), (3, 271), (4, 314), (5, 387), (6, 420), (7, 483), (8, 546), (9, 569), (10, 592), (11, 615), (12, 638), (13, 681), (14, 724), (15, 767), (16, 800), (17, 843), (18, 886), (19, 929), (20, 972), (21, 1005), (22, 1038), (23, 1071), (24, 1094), (25, 1117), (26, 1150), (27, 1173), (28, 1186), (29, 1209), (30, 1232), (31, 1265), (32, 1278), (33, 1311), (34, 1354), (35, 1377), (36, 1420), (37, 1453), (38, 1486), (39, 1529), (40, 1592), (41, 1635), (42, 1658), (43, 1681), (44, 1724), (45, 1737)] : List (Int × Nat)), lStp D h i q.2 := List.forall_mem_cons.mpr ⟨lw_0 hD hN h0 h6 hZ hR, List.forall_mem_cons.mpr ⟨lw_1 hD hN h0 h6 hZ hR, List.forall_mem_cons.mpr ⟨lw_2 hD hN h0 h6 hZ hR, List.forall_mem_cons.mpr ⟨lw_3 hD hN h0 h6 hZ hR, List.forall_mem_cons.mpr ⟨lw_4 hD hN h0 h6 hZ hR, List.forall_mem_cons.mpr ⟨lw_5 hD hN h0 h6 hZ hR, List.forall_mem_cons.mpr ⟨lw_6 hD hN h0 h6 hZ hR, List.forall_mem_cons.mpr ⟨lw_7 hD hN h0 h6 hZ hR, List.forall_mem_cons.mpr ⟨lw_8 hD hN h0 h6 hZ hR, List.forall_mem_cons.mpr ⟨lw_9 hD hN h0 h6 hZ hR, List.forall_mem_cons.mpr ⟨lw_10 hD hN h0 h6 hZ hR, List.forall_mem_cons.mpr ⟨lw_11 hD hN h0 h6 hZ hR, List.forall_mem_cons.mpr ⟨lw_12 hD hN h0 h6 hZ hR, List.forall_mem_cons.mpr ⟨lw_13 hD hN h0 h6 hZ hR, List.forall_mem_cons.mpr ⟨lw_14 hD hN h0 h6 hZ hR, List.forall_mem_cons.mpr ⟨lw_15 hD hN h0 h6 hZ hR, List.forall_mem_cons.mpr ⟨lw_16 hD hN h0 h6 hZ hR, List.forall_mem_cons.mpr ⟨lw_17 hD hN h0 h6 hZ hR, List.forall_mem_cons.mpr ⟨lw_18 hD hN h0 h6 hZ hR, List.forall_mem_cons.mpr ⟨lw_19 hD hN h0 h6 hZ hR, List.forall_mem_cons.mpr ⟨lw_20 hD hN h0 h6 hZ hR, List.forall_mem_cons.mpr ⟨lw_21 hD hN h0 h6 hZ hR, List.forall_mem_cons.mpr ⟨lw_22 hD hN h0 h6 hZ hR, List.forall_mem_cons.mpr ⟨lw_23 hD hN h0 h6 hZ hR, List.forall_mem_cons.mpr ⟨lw_24 hD hN h0 h6 hZ hR, List.forall_mem_cons.mpr ⟨lw_25 hD hN h0 h6 hZ hR, List.forall_mem_cons.mpr ⟨lw_26 hD hN h0 h6 hZ hR, List.forall_mem_cons.mpr ⟨lw_27 hD hN h0 h6 hZ hR, List.forall_mem_cons.mpr ⟨lw_28 hD hN h0 h6 hZ hR, List.forall_mem_cons.mpr ⟨lw_29 hD hN h0 h6 hZ hR, List.forall_mem_cons.mpr ⟨lw_30 hD hN h0 h6 hZ hR, List.forall_mem_cons.mpr ⟨lw_31 hD hN h0 h6 hZ hR, List.forall_mem_cons.mpr ⟨lw_32 hD hN h0 h6 hZ hR, List.forall_mem_cons.mpr ⟨lw_33 hD hN h0 h6 hZ hR, List.forall_mem_cons.mpr ⟨lw_34 hD hN h0 h6 hZ hR, List.forall_mem_cons.mpr ⟨lw_35 hD hN h0 h6 hZ hR, List.forall_mem_cons.mpr ⟨lw_36 hD hN h0 h6 hZ hR, List.forall_mem_cons.mpr ⟨lw_37 hD hN h0 h6 hZ hR, List.forall_mem_cons.mpr ⟨lw_38 hD hN h0 h6 hZ hR, List.forall_mem_cons.mpr ⟨lw_39 hD hN h0 h6 hZ hR, List.forall_mem_cons.mpr ⟨lw_40 hD hN h0 h6 hZ hR, List.forall_mem_cons.mpr ⟨lw_41 hD hN h0 h6 hZ hR, List.forall_mem_cons.mpr ⟨lw_42 hD hN h0 h6 hZ hR, List.forall_mem_cons.mpr ⟨lw_43 hD hN h0 h6 hZ hR, List.forall_mem_cons.mpr ⟨lw_44 hD hN h0 h6 hZ hR, List.forall_mem_cons.mpr ⟨lw_45 hD hN h0 h6 hZ hR, fun _ h => absurd h List.not_mem_nil⟩⟩⟩⟩⟩⟩⟩⟩⟩⟩⟩⟩⟩⟩⟩⟩⟩⟩⟩⟩⟩⟩⟩⟩⟩⟩⟩⟩⟩⟩⟩⟩⟩⟩⟩⟩⟩⟩⟩⟩⟩⟩⟩⟩⟩⟩
theorem lw_step {D : zD} (hD : ∀ i, -2147483648 ≤ D.2 i ∧ D.2 i ≤ 2147483647) (hN : D.1 < 2147483648) {h : zH} {i : Int} (h0 : 0 ≤ i) (h6 : i + 6 ≤ (D.1 : Int)) (hZ : lZ D h) (hR : fR h) : lStp D h i 18 := by
  have hsw : lStp D h i (zfind 1750 (zf32 3 (Int32.ofInt (D.2 i.toNat)) (Int32.ofInt 63)).toInt [(0, 232), (1, 245), (2, 258), (3, 271), (4, 314), (5, 387), (6, 420), (7, 483), (8, 546), (9, 569), (10, 592), (11, 615), (12, 638), (13, 681), (14, 724), (15, 767), (16, 800), (17, 843), (18, 886), (19, 929), (20, 972), (21, 1005), (22, 1038), (23, 1071), (24, 1094), (25, 1117), (26, 1150), (27, 1173), (28, 1186), (29, 1209), (30, 1232), (31, 1265), (32, 1278), (33, 1311), (34, 1354), (35, 1377), (36, 1420), (37, 1453), (38, 1486), (39, 1529), (40, 1592), (41, 1635), (42, 1658), (43, 1681), (44, 1724), (45, 1737)]) := by
    rcases zfind_in (nx := 1750) (x := (zf32 3 (Int32.ofInt (D.2 i.toNat)) (Int32.ofInt 63)).toInt) (cs := [(0, 232), (1, 245), (2, 258), (3, 271), (4, 314), (5, 387), (6, 420), (7, 483), (8, 546), (9, 569), (10, 592), (11, 615), (12, 638), (13, 681), (14, 724), (15, 767), (16, 800), (17, 843), (18, 886), (19, 929), (20, 972), (21, 1005), (22, 1038), (23, 1071), (24, 1094), (25, 1117), (26, 1150), (27, 1173), (28, 1186), (29, 1209), (30, 1232), (31, 1265), (32, 1278), (33, 1311), (34, 1354), (35, 1377), (36, 1420), (37, 1453), (38, 1486), (39, 1529), (40, 1592), (41, 1635), (42, 1658), (43, 1681), (44, 1724), (45, 1737)]) with ⟨q, hq, e⟩ | e
    · rw [e]; exact lw_all hD hN h0 h6 hZ hR q hq
    · rw [e]; exact lw_foot hD hN h0 h6 hZ hR
  obtain ⟨h', k1, k2, k3⟩ := hsw
  refine ⟨h', k1, k2, fun zr k => ?_⟩
  refine hq_load (hm_L _ _ rfl) rfl rfl ?_
  refine hq_load (hm_L _ _ rfl) rfl rfl ?_
  refine hq_alenS (hm_L _ _ rfl) ?_
  refine hq_push (z := 6) (hm_L _ _ rfl) ?_
  refine hq_bin (hm_L _ _ rfl) (hq_sub (by omega) (by omega)) ?_
  refine hq_icF (hm_L _ _ rfl) (zr1F (by omega)) ?_
  refine hq_load (hm_L _ _ rfl) rfl rfl ?_
  refine hq_load (hm_L _ _ rfl) rfl rfl ?_
  refine hq_aldS (hm_L _ _ rfl) h0 (by omega) ?_
  refine hq_push (hm_L _ _ rfl) ?_
  refine hq_bin (hm_L _ _ rfl) rfl ?_
  exact hq_sw (hm_L _ _ rfl) (k3 zr k)
theorem lw_end {D : zD} (hN : D.1 < 2147483648) {h : zH} {i : Int} (h0 : 0 ≤ i) (h6 : (D.1 : Int) < i + 6) (hi : i ≤ 2147483647) : zRun D TLw 615 341 18 (h, Lv i, []) (h, some (0, 1)) := by
  refine hq_load (hm_L _ _ rfl) rfl rfl ?_
  refine hq_load (hm_L _ _ rfl) rfl rfl ?_
  refine hq_alenS (hm_L _ _ rfl) ?_
  refine hq_push (z := 6) (hm_L _ _ rfl) ?_
  refine hq_bin (hm_L _ _ rfl) (hq_sub (by omega) (by omega)) ?_
  refine hq_icT (hm_L _ _ rfl) (zr1T (by omega)) ?_
  refine hq_push (hm_L _ _ rfl) ?_
  exact hq_ret (hm_L _ _ rfl) ⟨rfl, rfl⟩
theorem lw_loop {D : zD} (hD : ∀ i, -2147483648 ≤ D.2 i ∧ D.2 i ≤ 2147483647) (hN : D.1 < 2147483648) : ∀ (n : Nat) (h : zH) (i : Int), 0 ≤ i → i ≤ (D.1 : Int) → (D.1 : Int) - i < n → lZ D h → fR h → ∃ zr, zRun D TLw 615 341 18 (h, Lv i, []) zr ∧ zr.2 = some (0, 1) := by
  intro n
  induction n with
  | zero => intro h i h0 h1 hn; omega
  | succ n ih =>
    intro h i h0 h1 hn hZ hR
    by_cases h6 : i + 6 ≤ (D.1 : Int)
    · obtain ⟨h', hZ', hR', k⟩ := lw_step hD hN h0 h6 hZ hR
      obtain ⟨zr, k1, k2⟩ := ih h' (i + 6) (by omega) h6 (by omega) hZ' hR'
      exact ⟨zr, k zr k1, k2⟩
    · exact ⟨_, lw_end hN h0 (by omega) (by omega), rfl⟩
theorem Lz_eq : Lz = Lv 0 := by
  funext k
  match k with
  | 0 => rfl
  | 1 => rfl
  | 2 => rfl
  | 3 => rfl
  | k + 4 => rfl
theorem law_run {D : zD} (hD : ∀ i, -2147483648 ≤ D.2 i ∧ D.2 i ≤ 2147483647) (hL : D.1 < 2147483648) : ∃ zr, zRun D TLw 615 341 18 (hIni, Lz, []) zr ∧ zr.2 = some (0, 1) := by
  rw [Lz_eq]
  exact lw_loop hD hL (D.1 + 1) hIni 0 (Int.le_refl _) (Int.natCast_nonneg _) (by omega) (lZ_ini hD) fR_ini
