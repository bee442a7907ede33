/-! printed by wip/l/genlaw.py: the contracts that the law calls; the states between calls; each call checked -/
noncomputable def sLaw : List aK := [k_16, k_30, k_37, k_38, k_40, k_42, k_44, k_45, k_47, k_49, k_51, k_52, k_53, k_54, k_55, k_58, k_59, k_60, k_61, k_62, k_63, k_66, k_81, k_82, k_85, k_86, k_89, k_90, k_94, k_95, k_123, k_126, k_127, k_130, k_133, k_136, k_137, k_148, k_158, k_159, k_160, k_216, k_217, k_218, k_219, k_220, k_223, k_224, k_225, k_226, k_229, k_230, k_237, k_242, k_243, k_252, k_255, k_256, k_257, k_258, k_273, k_274, k_346, k_348, k_350, k_352, k_353, k_355, k_356, k_357, k_358, k_359, k_360, k_362, k_370, k_371, k_372, k_373, k_375, k_376, k_378, k_379, k_530, k_532, k_533, k_535, k_537, k_539, k_540, k_543, k_547, k_548, k_549, k_646, k_647, k_648, k_649, k_650, k_651, k_652, k_653, k_654, k_655, k_656, k_659, k_661, k_662, k_663, k_664, k_665, k_666, k_667, k_668, k_669]
theorem kLaw_deps {o : Nat} {D : zD} {Fl : Nat → zH → Prop} {T : zT} (H : kH2 o D Fl T) : ∀ κ ∈ sLaw, aSpecO o aG1 D Fl T κ := (List.forall_mem_cons.mpr ⟨ko_16 H.1, (List.forall_mem_cons.mpr ⟨ko_30 H.1, (List.forall_mem_cons.mpr ⟨ko_37 H.1, (List.forall_mem_cons.mpr ⟨ko_38 H.1, (List.forall_mem_cons.mpr ⟨ko_40 H.1, (List.forall_mem_cons.mpr ⟨ko_42 H.1, (List.forall_mem_cons.mpr ⟨ko_44 H.1, (List.forall_mem_cons.mpr ⟨ko_45 H.1, (List.forall_mem_cons.mpr ⟨ko_47 H.1, (List.forall_mem_cons.mpr ⟨ko_49 H.1, (List.forall_mem_cons.mpr ⟨ko_51 H.1, (List.forall_mem_cons.mpr ⟨ko_52 H.1, (List.forall_mem_cons.mpr ⟨ko_53 H.1, (List.forall_mem_cons.mpr ⟨ko_54 H.1, (List.forall_mem_cons.mpr ⟨ko_55 H.1, (List.forall_mem_cons.mpr ⟨ko_58 H.1, (List.forall_mem_cons.mpr ⟨ko_59 H.1, (List.forall_mem_cons.mpr ⟨ko_60 H.1, (List.forall_mem_cons.mpr ⟨ko_61 H.1, (List.forall_mem_cons.mpr ⟨ko_62 H.1, (List.forall_mem_cons.mpr ⟨ko_63 H.1, (List.forall_mem_cons.mpr ⟨ko_66 H.1, (List.forall_mem_cons.mpr ⟨ko_81 H.1, (List.forall_mem_cons.mpr ⟨ko_82 H.1, (List.forall_mem_cons.mpr ⟨ko_85 H.1, (List.forall_mem_cons.mpr ⟨ko_86 H.1, (List.forall_mem_cons.mpr ⟨ko_89 H.1, (List.forall_mem_cons.mpr ⟨ko_90 H.1, (List.forall_mem_cons.mpr ⟨ko_94 H.1, (List.forall_mem_cons.mpr ⟨ko_95 H.1, (List.forall_mem_cons.mpr ⟨ko_123 H.1, (List.forall_mem_cons.mpr ⟨ko_126 H.1, (List.forall_mem_cons.mpr ⟨ko_127 H.1, (List.forall_mem_cons.mpr ⟨ko_130 H.1, (List.forall_mem_cons.mpr ⟨ko_133 H.1, (List.forall_mem_cons.mpr ⟨ko_136 H.1, (List.forall_mem_cons.mpr ⟨ko_137 H.1, (List.forall_mem_cons.mpr ⟨ko_148 H.1, (List.forall_mem_cons.mpr ⟨ko_158 H.1, (List.forall_mem_cons.mpr ⟨ko_159 H.1, (List.forall_mem_cons.mpr ⟨ko_160 H.1, (List.forall_mem_cons.mpr ⟨ko_216 H.1, (List.forall_mem_cons.mpr ⟨ko_217 H.1, (List.forall_mem_cons.mpr ⟨ko_218 H.1, (List.forall_mem_cons.mpr ⟨ko_219 H.1, (List.forall_mem_cons.mpr ⟨ko_220 H.1, (List.forall_mem_cons.mpr ⟨ko_223 H.1, (List.forall_mem_cons.mpr ⟨ko_224 H.1, (List.forall_mem_cons.mpr ⟨ko_225 H.1, (List.forall_mem_cons.mpr ⟨ko_226 H.1, (List.forall_mem_cons.mpr ⟨ko_229 H.1, (List.forall_mem_cons.mpr ⟨ko_230 H.1, (List.forall_mem_cons.mpr ⟨ko_237 H.1, (List.forall_mem_cons.mpr ⟨ko_242 H.1, (List.forall_mem_cons.mpr ⟨ko_243 H.1, (List.forall_mem_cons.mpr ⟨ko_252 H.1, (List.forall_mem_cons.mpr ⟨ko_255 H.1, (List.forall_mem_cons.mpr ⟨ko_256 H.1, (List.forall_mem_cons.mpr ⟨ko_257 H.1, (List.forall_mem_cons.mpr ⟨ko_258 H.1, (List.forall_mem_cons.mpr ⟨ko_273 H.1, (List.forall_mem_cons.mpr ⟨ko_274 H.1, (List.forall_mem_cons.mpr ⟨ko_346 H, (List.forall_mem_cons.mpr ⟨ko_348 H.1, (List.forall_mem_cons.mpr ⟨ko_350 H.1, (List.forall_mem_cons.mpr ⟨ko_352 H.1, (List.forall_mem_cons.mpr ⟨ko_353 H.1, (List.forall_mem_cons.mpr ⟨ko_355 H.1, (List.forall_mem_cons.mpr ⟨ko_356 H.1, (List.forall_mem_cons.mpr ⟨ko_357 H.1, (List.forall_mem_cons.mpr ⟨ko_358 H.1, (List.forall_mem_cons.mpr ⟨ko_359 H.1, (List.forall_mem_cons.mpr ⟨ko_360 H.1, (List.forall_mem_cons.mpr ⟨ko_362 H.1, (List.forall_mem_cons.mpr ⟨ko_370 H.1, (List.forall_mem_cons.mpr ⟨ko_371 H.1, (List.forall_mem_cons.mpr ⟨ko_372 H.1, (List.forall_mem_cons.mpr ⟨ko_373 H.1, (List.forall_mem_cons.mpr ⟨ko_375 H.1, (List.forall_mem_cons.mpr ⟨ko_376 H.1, (List.forall_mem_cons.mpr ⟨ko_378 H.1, (List.forall_mem_cons.mpr ⟨ko_379 H.1, (List.forall_mem_cons.mpr ⟨ko_530 H.1, (List.forall_mem_cons.mpr ⟨ko_532 H.1, (List.forall_mem_cons.mpr ⟨ko_533 H.1, (List.forall_mem_cons.mpr ⟨ko_535 H.1, (List.forall_mem_cons.mpr ⟨ko_537 H.1, (List.forall_mem_cons.mpr ⟨ko_539 H.1, (List.forall_mem_cons.mpr ⟨ko_540 H.1, (List.forall_mem_cons.mpr ⟨ko_543 H.1, (List.forall_mem_cons.mpr ⟨ko_547 H.1, (List.forall_mem_cons.mpr ⟨ko_548 H.1, (List.forall_mem_cons.mpr ⟨ko_549 H.1, (List.forall_mem_cons.mpr ⟨ko_646 H.1, (List.forall_mem_cons.mpr ⟨ko_647 H.1, (List.forall_mem_cons.mpr ⟨ko_648 H.1, (List.forall_mem_cons.mpr ⟨ko_649 H.1, (List.forall_mem_cons.mpr ⟨ko_650 H.1, (List.forall_mem_cons.mpr ⟨ko_651 H, (List.forall_mem_cons.mpr ⟨ko_652 H.1, (List.forall_mem_cons.mpr ⟨ko_653 H.1, (List.forall_mem_cons.mpr ⟨ko_654 H.1, (List.forall_mem_cons.mpr ⟨ko_655 H.1, (List.forall_mem_cons.mpr ⟨ko_656 H.1, (List.forall_mem_cons.mpr ⟨ko_659 H.1, (List.forall_mem_cons.mpr ⟨ko_661 H.1, (List.forall_mem_cons.mpr ⟨ko_662 H.1, (List.forall_mem_cons.mpr ⟨ko_663 H.1, (List.forall_mem_cons.mpr ⟨ko_664 H.1, (List.forall_mem_cons.mpr ⟨ko_665 H.1, (List.forall_mem_cons.mpr ⟨ko_666 H.1, (List.forall_mem_cons.mpr ⟨ko_667 H.1, (List.forall_mem_cons.mpr ⟨ko_668 H.1, (List.forall_mem_cons.mpr ⟨ko_669 H.1, fun _ h => absurd h List.not_mem_nil⟩)⟩)⟩)⟩)⟩)⟩)⟩)⟩)⟩)⟩)⟩)⟩)⟩)⟩)⟩)⟩)⟩)⟩)⟩)⟩)⟩)⟩)⟩)⟩)⟩)⟩)⟩)⟩)⟩)⟩)⟩)⟩)⟩)⟩)⟩)⟩)⟩)⟩)⟩)⟩)⟩)⟩)⟩)⟩)⟩)⟩)⟩)⟩)⟩)⟩)⟩)⟩)⟩)⟩)⟩)⟩)⟩)⟩)⟩)⟩)⟩)⟩)⟩)⟩)⟩)⟩)⟩)⟩)⟩)⟩)⟩)⟩)⟩)⟩)⟩)⟩)⟩)⟩)⟩)⟩)⟩)⟩)⟩)⟩)⟩)⟩)⟩)⟩)⟩)⟩)⟩)⟩)⟩)⟩)⟩)⟩)⟩)⟩)⟩)⟩)⟩)⟩)⟩)⟩)⟩)⟩)⟩)⟩)⟩)⟩)⟩)⟩)⟩)⟩)
def lQ_0 : aQ := (1, [(0, (-9223372036854775808), 9223372036854775807)], [], [((0, 0, 10), (0, 0, 0)), ((121, 0, 23), (0, 0, 0))], [30, 61, 92, 123, 217, 218, 219, 220, 221, 222, 345, 346, 347, 348])
def lQ_1 : aQ := (5, [(4, 2, 8), (3, 1, 6), (2, 1, 3), (1, 0, 6), (0, (-9223372036854775808), 9223372036854775807)], [], [((126, 0, 553), (0, 2, 0)), ((126, 0, 552), (0, 3, 0)), ((126, 0, 551), (0, 4, 0)), ((126, 0, 550), (0, 5, 0)), ((121, 0, 23), (0, 0, 1)), ((0, 0, 10), (0, 0, 1))], [30, 61, 92, 123, 217, 218, 219, 220, 221, 222, 345, 346, 347, 348])
def lQ_2 : aQ := (9, [(8, 2, 8), (7, 1, 6), (6, 1, 3), (5, 0, 6), (4, 2, 8), (3, 1, 6), (2, 1, 3), (1, 0, 6), (0, (-9223372036854775808), 9223372036854775807)], [], [((126, 0, 1103), (0, 2, 0)), ((126, 0, 1102), (0, 3, 0)), ((126, 0, 1101), (0, 4, 0)), ((126, 0, 1100), (0, 5, 0)), ((121, 0, 23), (0, 0, 2)), ((0, 0, 10), (0, 0, 2)), ((126, 0, 553), (0, 6, 0)), ((126, 0, 552), (0, 7, 0)), ((126, 0, 551), (0, 8, 0)), ((126, 0, 550), (0, 9, 0))], [30, 61, 92, 123, 217, 218, 219, 220, 221, 222, 345, 346, 347, 348])
def lQ_3 : aQ := (13, [(12, 2, 8), (11, 1, 6), (10, 1, 3), (9, 0, 6), (8, 2, 8), (7, 1, 6), (6, 1, 3), (5, 0, 6), (4, 2, 8), (3, 1, 6), (2, 1, 3), (1, 0, 6), (0, (-9223372036854775808), 9223372036854775807)], [], [((126, 0, 1653), (0, 2, 0)), ((126, 0, 1652), (0, 3, 0)), ((126, 0, 1651), (0, 4, 0)), ((126, 0, 1650), (0, 5, 0)), ((121, 0, 23), (0, 0, 3)), ((0, 0, 10), (0, 0, 3)), ((126, 0, 1103), (0, 6, 0)), ((126, 0, 1102), (0, 7, 0)), ((126, 0, 1101), (0, 8, 0)), ((126, 0, 1100), (0, 9, 0)), ((126, 0, 553), (0, 10, 0)), ((126, 0, 552), (0, 11, 0)), ((126, 0, 551), (0, 12, 0)), ((126, 0, 550), (0, 13, 0))], [30, 61, 92, 123, 217, 218, 219, 220, 221, 222, 345, 346, 347, 348])
def lQs : List aQ := [lQ_0, lQ_1, lQ_2, lQ_3]
def lQk_0 : aQ := (1, [(0, (-9223372036854775808), 9223372036854775807)], [], [((0, 0, 10), (0, 0, 1)), ((121, 0, 23), (0, 0, 0))], [30, 61, 92, 123, 217, 218, 219, 220, 221, 222, 345, 346, 347, 348])
def lQk_1 : aQ := (5, [(4, 2, 8), (3, 1, 6), (2, 1, 3), (1, 0, 6), (0, (-9223372036854775808), 9223372036854775807)], [], [((126, 0, 553), (0, 2, 0)), ((126, 0, 552), (0, 3, 0)), ((126, 0, 551), (0, 4, 0)), ((126, 0, 550), (0, 5, 0)), ((121, 0, 23), (0, 0, 1)), ((0, 0, 10), (0, 0, 2))], [30, 61, 92, 123, 217, 218, 219, 220, 221, 222, 345, 346, 347, 348])
def lQk_2 : aQ := (9, [(8, 2, 8), (7, 1, 6), (6, 1, 3), (5, 0, 6), (4, 2, 8), (3, 1, 6), (2, 1, 3), (1, 0, 6), (0, (-9223372036854775808), 9223372036854775807)], [], [((126, 0, 1103), (0, 2, 0)), ((126, 0, 1102), (0, 3, 0)), ((126, 0, 1101), (0, 4, 0)), ((126, 0, 1100), (0, 5, 0)), ((121, 0, 23), (0, 0, 2)), ((0, 0, 10), (0, 0, 3)), ((126, 0, 553), (0, 6, 0)), ((126, 0, 552), (0, 7, 0)), ((126, 0, 551), (0, 8, 0)), ((126, 0, 550), (0, 9, 0))], [30, 61, 92, 123, 217, 218, 219, 220, 221, 222, 345, 346, 347, 348])
def lQk_3 : aQ := (13, [(12, 2, 8), (11, 1, 6), (10, 1, 3), (9, 0, 6), (8, 2, 8), (7, 1, 6), (6, 1, 3), (5, 0, 6), (4, 2, 8), (3, 1, 6), (2, 1, 3), (1, 0, 6), (0, (-9223372036854775808), 9223372036854775807)], [], [((126, 0, 1653), (0, 2, 0)), ((126, 0, 1652), (0, 3, 0)), ((126, 0, 1651), (0, 4, 0)), ((126, 0, 1650), (0, 5, 0)), ((121, 0, 23), (0, 0, 3)), ((0, 0, 10), (0, 0, 3)), ((126, 0, 1103), (0, 6, 0)), ((126, 0, 1102), (0, 7, 0)), ((126, 0, 1101), (0, 8, 0)), ((126, 0, 1100), (0, 9, 0)), ((126, 0, 553), (0, 10, 0)), ((126, 0, 552), (0, 11, 0)), ((126, 0, 551), (0, 12, 0)), ((126, 0, 550), (0, 13, 0))], [30, 61, 92, 123, 217, 218, 219, 220, 221, 222, 345, 346, 347, 348])
def lQk : List aQ := [lQk_0, lQk_1, lQk_2, lQk_3]
def lQb_0 : aQ := (1, [(0, (-9223372036854775808), 9223372036854775807)], [], [((0, 0, 10), (0, 0, 0)), ((121, 0, 23), (0, 0, 0))], [30, 61, 92, 123, 217, 218, 219, 220, 221, 222, 345, 346, 347, 348])
def lQb_1 : aQ := (5, [(4, 2, 8), (3, 1, 6), (2, 1, 3), (1, 0, 6), (0, (-9223372036854775808), 9223372036854775807)], [], [((126, 0, 553), (0, 2, 0)), ((126, 0, 552), (0, 3, 0)), ((126, 0, 551), (0, 4, 0)), ((126, 0, 550), (0, 5, 0)), ((121, 0, 23), (0, 0, 1)), ((0, 0, 10), (0, 0, 0))], [30, 61, 92, 123, 217, 218, 219, 220, 221, 222, 345, 346, 347, 348])
def lQb_2 : aQ := (9, [(8, 2, 8), (7, 1, 6), (6, 1, 3), (5, 0, 6), (4, 2, 8), (3, 1, 6), (2, 1, 3), (1, 0, 6), (0, (-9223372036854775808), 9223372036854775807)], [], [((126, 0, 1103), (0, 2, 0)), ((126, 0, 1102), (0, 3, 0)), ((126, 0, 1101), (0, 4, 0)), ((126, 0, 1100), (0, 5, 0)), ((121, 0, 23), (0, 0, 2)), ((0, 0, 10), (0, 0, 1)), ((126, 0, 553), (0, 6, 0)), ((126, 0, 552), (0, 7, 0)), ((126, 0, 551), (0, 8, 0)), ((126, 0, 550), (0, 9, 0))], [30, 61, 92, 123, 217, 218, 219, 220, 221, 222, 345, 346, 347, 348])
def lQb_3 : aQ := (13, [(12, 2, 8), (11, 1, 6), (10, 1, 3), (9, 0, 6), (8, 2, 8), (7, 1, 6), (6, 1, 3), (5, 0, 6), (4, 2, 8), (3, 1, 6), (2, 1, 3), (1, 0, 6), (0, (-9223372036854775808), 9223372036854775807)], [], [((126, 0, 1653), (0, 2, 0)), ((126, 0, 1652), (0, 3, 0)), ((126, 0, 1651), (0, 4, 0)), ((126, 0, 1650), (0, 5, 0)), ((121, 0, 23), (0, 0, 3)), ((0, 0, 10), (0, 0, 2)), ((126, 0, 1103), (0, 6, 0)), ((126, 0, 1102), (0, 7, 0)), ((126, 0, 1101), (0, 8, 0)), ((126, 0, 1100), (0, 9, 0)), ((126, 0, 553), (0, 10, 0)), ((126, 0, 552), (0, 11, 0)), ((126, 0, 551), (0, 12, 0)), ((126, 0, 550), (0, 13, 0))], [30, 61, 92, 123, 217, 218, 219, 220, 221, 222, 345, 346, 347, 348])
def lQb : List aQ := [lQb_0, lQb_1, lQb_2, lQb_3]
-- X11_status
def lM_181 : aM := []
theorem lck_181 : a_all (lCk (aG0 aG1) sLaw 614 181 0 [] 0 lM_181 lQs) lQs = true := by decide +kernel
-- X12_status
def lM_315 : aM := [(121, 1, 1)]
theorem lck_315 : a_all (lCk (aG0 aG1) sLaw 614 315 121 [] 0 lM_315 lQs) lQs = true := by decide +kernel
-- X11_top
def lM_187 : aM := []
theorem lck_187 : a_all (lCk (aG0 aG1) sLaw 614 187 0 [] 1 lM_187 lQs) lQs = true := by decide +kernel
-- X12_top
def lM_328 : aM := [(121, 1, 1)]
theorem lck_328 : a_all (lCk (aG0 aG1) sLaw 614 328 121 [] 1 lM_328 lQs) lQs = true := by decide +kernel
-- X11_bottom
def lM_147 : aM := []
theorem lck_147 : a_all (lCk (aG0 aG1) sLaw 614 147 0 [] 1 lM_147 lQs) lQs = true := by decide +kernel
-- X12_bottom
def lM_204 : aM := [(121, 1, 1)]
theorem lck_204 : a_all (lCk (aG0 aG1) sLaw 614 204 121 [] 1 lM_204 lQs) lQs = true := by decide +kernel
-- X11_tray
def lM_188 : aM := [(0, 0, 0), (2, 1, 2), (3, 0, 59), (4, 1, 2), (5, 0, 59), (6, 1, 2), (7, 0, 59), (8, 1, 2), (9, 0, 59)]
theorem lck_188 : a_all (lCk (aG0 aG1) sLaw 614 188 0 [0, 0, 0] 0 lM_188 lQs) lQs = true := by decide +kernel
-- X12_tray
def lM_329 : aM := [(121, 0, 1), (122, 0, 3), (123, 0, 3), (124, 0, 239)]
theorem lck_329 : a_all (lCk (aG0 aG1) sLaw 614 329 121 [0, 0, 0] 0 lM_329 lQs) lQs = true := by decide +kernel
-- X11_write
def lM_195 : aM := [(0, 0, 0), (3, 0, 59), (5, 0, 59), (7, 0, 59), (9, 0, 59)]
theorem lck_195 : a_all (lCk (aG0 aG1) sLaw 614 195 0 [0, 0, 1] 0 lM_195 lQs) lQs = true := by decide +kernel
-- X12_write
def lM_339 : aM := [(121, 0, 1), (124, 0, 239)]
theorem lck_339 : a_all (lCk (aG0 aG1) sLaw 614 339 121 [0, 0, 1] 0 lM_339 lQs) lQs = true := by decide +kernel
-- X11_read
def lM_175 : aM := [(0, 0, 0)]
theorem lck_175 : a_all (lCk (aG0 aG1) sLaw 614 175 0 [0, 0] 1 lM_175 lQs) lQs = true := by decide +kernel
-- X12_read
def lM_294 : aM := [(121, 0, 1)]
theorem lck_294 : a_all (lCk (aG0 aG1) sLaw 614 294 121 [0, 0] 1 lM_294 lQs) lQs = true := by decide +kernel
-- X11_pour
def lM_172 : aM := [(0, 0, 0), (3, 0, 59), (5, 0, 59), (7, 0, 59), (9, 0, 59)]
theorem lck_172 : a_all (lCk (aG0 aG1) sLaw 614 172 0 [0, 0, 0, 0, 0] 0 lM_172 lQs) lQs = true := by decide +kernel
-- X12_pour
def lM_291 : aM := [(121, 0, 1), (124, 0, 239)]
theorem lck_291 : a_all (lCk (aG0 aG1) sLaw 614 291 121 [0, 0, 0, 0, 0] 0 lM_291 lQs) lQs = true := by decide +kernel
-- X11_feed
def lM_155 : aM := [(10, 1, 1), (11, 0, 899)]
theorem lck_155 : a_all (lCk (aG0 aG1) sLaw 614 155 0 [0, 0, 0, 0, 0] 0 lM_155 lQs) lQs = true := by decide +kernel
-- X12_feed
def lM_227 : aM := [(121, 1, 1), (121, 8, 8), (125, 0, 899)]
theorem lck_227 : a_all (lCk (aG0 aG1) sLaw 614 227 121 [0, 0, 0, 0, 0] 0 lM_227 lQs) lQs = true := by decide +kernel
-- X11_land
def lM_162 : aM := [(0, 0, 0), (0, 7, 8), (10, 1, 1), (10, 6, 10), (12, 0, 900), (13, 0, 900), (14, 0, 900), (15, 0, 900), (16, 1, 2), (24, 0, 4), (25, 0, 47), (26, 0, 47), (27, 0, 143), (28, 0, 5), (29, 0, 5), (30, 0, 5), (31, 0, 5), (32, 0, 5), (33, 0, 5), (34, 0, 1), (39, 0, 4), (40, 0, 47), (41, 0, 47), (42, 0, 143), (43, 0, 5), (44, 0, 5), (45, 0, 5), (46, 0, 5), (47, 0, 5), (48, 0, 5), (49, 0, 1)]
theorem lck_162 : a_all (lCk (aG0 aG1) sLaw 614 162 0 [0] 0 lM_162 lQs) lQs = true := by decide +kernel
-- X12_land
def lM_268 : aM := [(121, 0, 1), (121, 8, 19), (121, 24, 24), (126, 0, 549), (126, 2200, 2749), (128, 0, 5), (128, 24, 29)]
theorem lck_268 : a_all (lCk (aG0 aG1) sLaw 614 268 121 [0] 0 lM_268 lQs) lQs = true := by decide +kernel
-- X11_orders
def lM_170 : aM := [(0, 0, 0), (10, 1, 1), (10, 6, 10), (12, 0, 900), (13, 0, 900), (14, 0, 900), (15, 0, 900), (17, 2, 2), (17, 4, 4), (18, 0, 1), (19, 0, 59), (20, 0, 59), (21, 0, 59), (22, 0, 59), (23, 0, 2), (34, 0, 1), (35, 0, 59), (36, 0, 59), (37, 0, 59), (38, 0, 59), (49, 0, 1), (50, 0, 59), (51, 0, 59), (52, 0, 59), (53, 0, 59)]
theorem lck_170 : a_all (lCk (aG0 aG1) sLaw 614 170 0 [0] 0 lM_170 lQs) lQs = true := by decide +kernel
-- X12_orders
def lM_289 : aM := [(121, 0, 1), (121, 8, 19), (121, 25, 25), (126, 275, 546), (126, 2477, 2479), (126, 2483, 2488), (126, 2492, 2497), (126, 2501, 2506), (126, 2510, 2515), (126, 2519, 2524), (126, 2528, 2533), (126, 2537, 2542), (126, 2546, 2551), (126, 2555, 2560), (126, 2564, 2569), (126, 2573, 2578), (126, 2582, 2587), (126, 2591, 2596), (126, 2600, 2605), (126, 2609, 2614), (126, 2618, 2623), (126, 2627, 2632), (126, 2636, 2641), (126, 2645, 2650), (126, 2654, 2659), (126, 2663, 2668), (126, 2672, 2677), (126, 2681, 2686), (126, 2690, 2695), (126, 2699, 2704), (126, 2708, 2713), (126, 2717, 2722), (126, 2726, 2731), (126, 2735, 2740), (126, 2744, 2746)]
theorem lck_289 : a_all (lCk (aG0 aG1) sLaw 614 289 121 [0] 0 lM_289 lQs) lQs = true := by decide +kernel
-- X11_fault
def lM_154 : aM := []
theorem lck_154 : a_all (lCk (aG0 aG1) sLaw 614 154 0 [0] 0 lM_154 lQs) lQs = true := by decide +kernel
-- X12_fault
def lM_226 : aM := [(121, 1, 1)]
theorem lck_226 : a_all (lCk (aG0 aG1) sLaw 614 226 121 [0] 0 lM_226 lQs) lQs = true := by decide +kernel
-- X11_many
def lM_163 : aM := [(0, 0, 0)]
theorem lck_163 : a_all (lCk (aG0 aG1) sLaw 614 163 0 [0] 0 lM_163 lQs) lQs = true := by decide +kernel
-- X12_many
def lM_273 : aM := [(121, 0, 1)]
theorem lck_273 : a_all (lCk (aG0 aG1) sLaw 614 273 121 [0] 0 lM_273 lQs) lQs = true := by decide +kernel
-- X11_ground
def lM_156 : aM := [(0, 0, 0)]
theorem lck_156 : a_all (lCk (aG0 aG1) sLaw 614 156 0 [0, 0, 0] 0 lM_156 lQs) lQs = true := by decide +kernel
-- X12_ground
def lM_233 : aM := [(121, 0, 1)]
theorem lck_233 : a_all (lCk (aG0 aG1) sLaw 614 233 121 [0, 0, 0] 0 lM_233 lQs) lQs = true := by decide +kernel
-- X11_cell
def lM_148 : aM := [(0, 0, 0)]
theorem lck_148 : a_all (lCk (aG0 aG1) sLaw 614 148 0 [0, 0, 0] 0 lM_148 lQs) lQs = true := by decide +kernel
-- X12_cell
def lM_205 : aM := [(121, 0, 1)]
theorem lck_205 : a_all (lCk (aG0 aG1) sLaw 614 205 121 [0, 0, 0] 0 lM_205 lQs) lQs = true := by decide +kernel
-- X11_shows
def lM_180 : aM := [(0, 0, 0)]
theorem lck_180 : a_all (lCk (aG0 aG1) sLaw 614 180 0 [0, 0, 0] 0 lM_180 lQs) lQs = true := by decide +kernel
-- X12_shows
def lM_310 : aM := [(121, 0, 1)]
theorem lck_310 : a_all (lCk (aG0 aG1) sLaw 614 310 121 [0, 0, 0] 0 lM_310 lQs) lQs = true := by decide +kernel
-- X11_company
def lM_151 : aM := [(0, 0, 0)]
theorem lck_151 : a_all (lCk (aG0 aG1) sLaw 614 151 0 [0, 0] 0 lM_151 lQs) lQs = true := by decide +kernel
-- X12_company
def lM_209 : aM := [(121, 0, 1)]
theorem lck_209 : a_all (lCk (aG0 aG1) sLaw 614 209 121 [0, 0] 0 lM_209 lQs) lQs = true := by decide +kernel
-- X11_bite
def lM_146 : aM := [(0, 0, 0), (24, 4, 4), (27, 0, 143), (39, 4, 4), (42, 0, 143)]
theorem lck_146 : a_all (lCk (aG0 aG1) sLaw 614 146 0 [0, 0, 0] 0 lM_146 lQs) lQs = true := by decide +kernel
-- X12_bite
def lM_202 : aM := [(121, 0, 1), (126, 4, 4), (126, 101, 244)]
theorem lck_202 : a_all (lCk (aG0 aG1) sLaw 614 202 121 [0, 0, 0] 0 lM_202 lQs) lQs = true := by decide +kernel
-- X11_mould
def lM_168 : aM := [(0, 0, 0), (27, 0, 143), (42, 0, 143)]
theorem lck_168 : a_all (lCk (aG0 aG1) sLaw 614 168 0 [0, 0, 0] 0 lM_168 lQs) lQs = true := by decide +kernel
-- X12_mould
def lM_279 : aM := [(121, 0, 1), (126, 101, 244)]
theorem lck_279 : a_all (lCk (aG0 aG1) sLaw 614 279 121 [0, 0, 0] 0 lM_279 lQs) lQs = true := by decide +kernel
-- X11_honey
def lM_160 : aM := [(0, 0, 0), (27, 0, 143), (42, 0, 143)]
theorem lck_160 : a_all (lCk (aG0 aG1) sLaw 614 160 0 [0, 0, 0] 0 lM_160 lQs) lQs = true := by decide +kernel
-- X12_honey
def lM_239 : aM := [(121, 0, 1), (126, 101, 244)]
theorem lck_239 : a_all (lCk (aG0 aG1) sLaw 614 239 121 [0, 0, 0] 0 lM_239 lQs) lQs = true := by decide +kernel
-- X11_clean
def lM_149 : aM := [(0, 0, 0), (27, 0, 143), (42, 0, 143)]
theorem lck_149 : a_all (lCk (aG0 aG1) sLaw 614 149 0 [0, 0, 0] 0 lM_149 lQs) lQs = true := by decide +kernel
-- X12_clean
def lM_208 : aM := [(121, 0, 1), (126, 101, 244)]
theorem lck_208 : a_all (lCk (aG0 aG1) sLaw 614 208 121 [0, 0, 0] 0 lM_208 lQs) lQs = true := by decide +kernel
-- X11_steam
def lM_182 : aM := [(0, 0, 0), (27, 0, 143), (42, 0, 143)]
theorem lck_182 : a_all (lCk (aG0 aG1) sLaw 614 182 0 [0, 0] 0 lM_182 lQs) lQs = true := by decide +kernel
-- X12_steam
def lM_316 : aM := [(121, 0, 1), (126, 101, 244)]
theorem lck_316 : a_all (lCk (aG0 aG1) sLaw 614 316 121 [0, 0] 0 lM_316 lQs) lQs = true := by decide +kernel
-- X11_unlike
def lM_190 : aM := [(0, 0, 0)]
theorem lck_190 : a_all (lCk (aG0 aG1) sLaw 614 190 0 [0, 0] 0 lM_190 lQs) lQs = true := by decide +kernel
-- X12_unlike
def lM_332 : aM := [(121, 0, 1)]
theorem lck_332 : a_all (lCk (aG0 aG1) sLaw 614 332 121 [0, 0] 0 lM_332 lQs) lQs = true := by decide +kernel
-- X11_count
def lM_152 : aM := [(0, 0, 0)]
theorem lck_152 : a_all (lCk (aG0 aG1) sLaw 614 152 0 [0, 0] 0 lM_152 lQs) lQs = true := by decide +kernel
-- X12_count
def lM_213 : aM := [(121, 0, 1)]
theorem lck_213 : a_all (lCk (aG0 aG1) sLaw 614 213 121 [0, 0] 0 lM_213 lQs) lQs = true := by decide +kernel
-- X11_hole
def lM_159 : aM := [(0, 0, 0)]
theorem lck_159 : a_all (lCk (aG0 aG1) sLaw 614 159 0 [0] 0 lM_159 lQs) lQs = true := by decide +kernel
-- X12_hole
def lM_238 : aM := [(121, 0, 1), (129, 0, 47)]
theorem lck_238 : a_all (lCk (aG0 aG1) sLaw 614 238 121 [0] 0 lM_238 lQs) lQs = true := by decide +kernel
-- X11_way
def lM_191 : aM := [(0, 0, 0), (0, 17, 17), (100, 3, 5), (100, 7, 8), (101, 0, 47), (102, 0, 47), (103, 0, 63), (104, 0, 47), (119, 0, 47)]
theorem lck_191 : a_all (lCk (aG0 aG1) sLaw 614 191 0 [0] 0 lM_191 lQs) lQs = true := by decide +kernel
-- X12_way
def lM_334 : aM := [(121, 0, 1), (121, 29, 29), (121, 31, 31), (130, 0, 47), (131, 0, 48), (132, 0, 48)]
theorem lck_334 : a_all (lCk (aG0 aG1) sLaw 614 334 121 [0] 0 lM_334 lQs) lQs = true := by decide +kernel
-- X11_wayAt
def lM_192 : aM := [(0, 0, 0)]
theorem lck_192 : a_all (lCk (aG0 aG1) sLaw 614 192 0 [0, 0] 0 lM_192 lQs) lQs = true := by decide +kernel
-- X12_wayAt
def lM_335 : aM := [(121, 0, 1)]
theorem lck_335 : a_all (lCk (aG0 aG1) sLaw 614 335 121 [0, 0] 0 lM_335 lQs) lQs = true := by decide +kernel
-- X11_march
def lM_164 : aM := [(0, 0, 0), (0, 18, 18), (30, 0, 5), (33, 0, 5), (45, 0, 5), (48, 0, 5), (100, 3, 5), (100, 7, 8), (101, 0, 47), (102, 0, 47), (103, 0, 63), (104, 0, 47)]
theorem lck_164 : a_all (lCk (aG0 aG1) sLaw 614 164 0 [0] 0 lM_164 lQs) lQs = true := by decide +kernel
-- X12_march
def lM_274 : aM := [(121, 0, 1), (121, 31, 33), (126, 245, 250), (126, 269, 274), (130, 0, 47), (132, 0, 48)]
theorem lck_274 : a_all (lCk (aG0 aG1) sLaw 614 274 121 [0] 0 lM_274 lQs) lQs = true := by decide +kernel
-- X11_stuck
def lM_183 : aM := [(0, 0, 0)]
theorem lck_183 : a_all (lCk (aG0 aG1) sLaw 614 183 0 [] 0 lM_183 lQs) lQs = true := by decide +kernel
-- X12_stuck
def lM_319 : aM := [(121, 0, 1)]
theorem lck_319 : a_all (lCk (aG0 aG1) sLaw 614 319 121 [] 0 lM_319 lQs) lQs = true := by decide +kernel
-- X11_truly
def lM_189 : aM := [(0, 0, 0), (100, 3, 5), (100, 7, 8), (101, 0, 47), (102, 0, 47), (103, 0, 63), (104, 0, 47)]
theorem lck_189 : a_all (lCk (aG0 aG1) sLaw 614 189 0 [0] 0 lM_189 lQs) lQs = true := by decide +kernel
-- X12_truly
def lM_331 : aM := [(121, 0, 1), (121, 31, 31), (130, 0, 47), (132, 0, 48)]
theorem lck_331 : a_all (lCk (aG0 aG1) sLaw 614 331 121 [0] 0 lM_331 lQs) lQs = true := by decide +kernel
-- X11_best
def lM_145 : aM := [(0, 0, 0), (100, 3, 5), (101, 0, 47), (102, 0, 47), (103, 0, 63)]
theorem lck_145 : a_all (lCk (aG0 aG1) sLaw 614 145 0 [0] 0 lM_145 lQs) lQs = true := by decide +kernel
-- X12_best
def lM_201 : aM := [(121, 0, 1), (130, 0, 47)]
theorem lck_201 : a_all (lCk (aG0 aG1) sLaw 614 201 121 [0] 0 lM_201 lQs) lQs = true := by decide +kernel
-- X11_hand
def lM_158 : aM := [(0, 0, 0), (32, 0, 5), (47, 0, 5)]
theorem lck_158 : a_all (lCk (aG0 aG1) sLaw 614 158 0 [0, 0] 0 lM_158 lQs) lQs = true := by decide +kernel
-- X12_hand
def lM_236 : aM := [(121, 0, 1), (126, 263, 268)]
theorem lck_236 : a_all (lCk (aG0 aG1) sLaw 614 236 121 [0, 0] 0 lM_236 lQs) lQs = true := by decide +kernel
-- X11_reach
def lM_174 : aM := [(0, 0, 0), (100, 3, 5), (100, 7, 8), (101, 0, 47), (102, 0, 47), (103, 0, 63), (104, 0, 47)]
theorem lck_174 : a_all (lCk (aG0 aG1) sLaw 614 174 0 [] 0 lM_174 lQs) lQs = true := by decide +kernel
-- X12_reach
def lM_293 : aM := [(121, 0, 1), (130, 0, 47)]
theorem lck_293 : a_all (lCk (aG0 aG1) sLaw 614 293 121 [] 0 lM_293 lQs) lQs = true := by decide +kernel
-- X11_seen
def lM_179 : aM := [(0, 0, 0), (100, 3, 5), (100, 7, 8), (101, 0, 47), (102, 0, 47), (103, 0, 63), (104, 0, 47)]
theorem lck_179 : a_all (lCk (aG0 aG1) sLaw 614 179 0 [0, 0] 0 lM_179 lQs) lQs = true := by decide +kernel
-- X12_seen
def lM_309 : aM := [(121, 0, 1), (121, 31, 31), (130, 0, 47), (132, 0, 48)]
theorem lck_309 : a_all (lCk (aG0 aG1) sLaw 614 309 121 [0, 0] 0 lM_309 lQs) lQs = true := by decide +kernel
-- X11_supper
def lM_184 : aM := [(0, 0, 0), (100, 3, 5), (100, 7, 8), (101, 0, 47), (102, 0, 47), (103, 0, 63), (104, 0, 47), (105, 1, 2), (105, 7, 10), (106, 0, 5), (107, 0, 5), (108, 0, 287), (109, 0, 287)]
theorem lck_184 : a_all (lCk (aG0 aG1) sLaw 614 184 0 [0, 0, 0] 0 lM_184 lQs) lQs = true := by decide +kernel
-- X12_supper
def lM_321 : aM := [(121, 0, 1), (121, 34, 35), (126, 101, 244), (130, 0, 47), (133, 0, 3)]
theorem lck_321 : a_all (lCk (aG0 aG1) sLaw 614 321 121 [0, 0, 0] 0 lM_321 lQs) lQs = true := by decide +kernel
-- X11_cut
def lM_153 : aM := [(0, 0, 0), (100, 3, 5), (100, 7, 8), (101, 0, 47), (102, 0, 47), (103, 0, 63), (104, 0, 47), (110, 0, 4), (110, 8, 8), (111, 0, 47), (112, 0, 95), (113, 0, 95)]
theorem lck_153 : a_all (lCk (aG0 aG1) sLaw 614 153 0 [0] 0 lM_153 lQs) lQs = true := by decide +kernel
-- X12_cut_
def lM_217 : aM := [(121, 0, 1), (126, 101, 244), (130, 0, 47)]
theorem lck_217 : a_all (lCk (aG0 aG1) sLaw 614 217 121 [0] 0 lM_217 lQs) lQs = true := by decide +kernel
-- X11_worth
def lM_194 : aM := [(0, 0, 0), (100, 3, 5), (100, 7, 8), (101, 0, 47), (102, 0, 47), (103, 0, 63), (104, 0, 47), (105, 1, 2), (106, 0, 5), (107, 0, 5), (108, 0, 287), (109, 0, 287)]
theorem lck_194 : a_all (lCk (aG0 aG1) sLaw 614 194 0 [0, 0, 0] 0 lM_194 lQs) lQs = true := by decide +kernel
-- X12_worth
def lM_337 : aM := [(121, 0, 1), (126, 101, 244), (130, 0, 47)]
theorem lck_337 : a_all (lCk (aG0 aG1) sLaw 614 337 121 [0, 0, 0] 0 lM_337 lQs) lQs = true := by decide +kernel
-- X11_mostWorth
def lM_167 : aM := [(0, 0, 0), (100, 3, 5), (100, 7, 8), (101, 0, 47), (102, 0, 47), (103, 0, 63), (104, 0, 47), (105, 1, 2), (106, 0, 5), (107, 0, 5), (108, 0, 287), (109, 0, 287)]
theorem lck_167 : a_all (lCk (aG0 aG1) sLaw 614 167 0 [0, 0] 0 lM_167 lQs) lQs = true := by decide +kernel
-- X12_mostWorth
def lM_278 : aM := [(121, 0, 1), (126, 101, 244), (130, 0, 47)]
theorem lck_278 : a_all (lCk (aG0 aG1) sLaw 614 278 121 [0, 0] 0 lM_278 lQs) lQs = true := by decide +kernel
-- X11_told
def lM_186 : aM := [(0, 0, 0)]
theorem lck_186 : a_all (lCk (aG0 aG1) sLaw 614 186 0 [0, 0] 1 lM_186 lQs) lQs = true := by decide +kernel
-- X12_told
def lM_327 : aM := [(121, 0, 1)]
theorem lck_327 : a_all (lCk (aG0 aG1) sLaw 614 327 121 [0, 0] 1 lM_327 lQs) lQs = true := by decide +kernel
-- X11_halves
def lM_157 : aM := [(0, 0, 0)]
theorem lck_157 : a_all (lCk (aG0 aG1) sLaw 614 157 0 [0, 0, 0] 0 lM_157 lQs) lQs = true := by decide +kernel
-- X12_halves
def lM_235 : aM := [(121, 0, 1)]
theorem lck_235 : a_all (lCk (aG0 aG1) sLaw 614 235 121 [0, 0, 0] 0 lM_235 lQs) lQs = true := by decide +kernel
-- X11_odds
def lM_169 : aM := [(0, 0, 2), (114, 0, 1), (115, 0, 47), (116, 0, 47)]
theorem lck_169 : a_all (lCk (aG0 aG1) sLaw 614 169 0 [0, 0, 0, 0, 0] 0 lM_169 lQs) lQs = true := by decide +kernel
-- X12_odds
def lM_287 : aM := [(121, 0, 3), (134, 0, 47), (135, 0, 47)]
theorem lck_287 : a_all (lCk (aG0 aG1) sLaw 614 287 121 [0, 0, 0, 0, 0] 0 lM_287 lQs) lQs = true := by decide +kernel
-- X11_mean
def lM_166 : aM := [(0, 0, 2), (114, 0, 1), (115, 0, 47), (116, 0, 47)]
theorem lck_166 : a_all (lCk (aG0 aG1) sLaw 614 166 0 [0, 0, 0] 0 lM_166 lQs) lQs = true := by decide +kernel
-- X12_mean
def lM_277 : aM := [(121, 0, 3), (134, 0, 47), (135, 0, 47)]
theorem lck_277 : a_all (lCk (aG0 aG1) sLaw 614 277 121 [0, 0, 0] 0 lM_277 lQs) lQs = true := by decide +kernel
-- X11_run
def lM_178 : aM := [(0, 0, 0), (24, 4, 4), (27, 0, 143), (30, 0, 5), (33, 0, 5), (39, 4, 4), (42, 0, 143), (45, 0, 5), (48, 0, 5), (100, 3, 5), (100, 7, 8), (101, 0, 47), (102, 0, 47), (103, 0, 63), (104, 0, 47), (117, 2, 11), (118, 0, 59), (120, 0, 3)]
theorem lck_178 : a_all (lCk (aG0 aG1) sLaw 614 178 0 [0] 0 lM_178 lQs) lQs = true := by decide +kernel
-- X12_run
def lM_307 : aM := [(121, 0, 1), (121, 31, 31), (121, 33, 33), (121, 40, 47), (126, 4, 4), (126, 101, 250), (126, 269, 274), (130, 0, 47), (132, 0, 48), (136, 0, 3)]
theorem lck_307 : a_all (lCk (aG0 aG1) sLaw 614 307 121 [0] 0 lM_307 lQs) lQs = true := by decide +kernel
-- X11_ran
def lM_173 : aM := [(0, 0, 0)]
theorem lck_173 : a_all (lCk (aG0 aG1) sLaw 614 173 0 [0] 0 lM_173 lQs) lQs = true := by decide +kernel
-- X12_ran
def lM_292 : aM := [(121, 0, 1)]
theorem lck_292 : a_all (lCk (aG0 aG1) sLaw 614 292 121 [0] 0 lM_292 lQs) lQs = true := by decide +kernel
-- X11_arrivals
def lM_143 : aM := [(0, 0, 2), (24, 0, 4), (25, 0, 47), (26, 0, 47), (27, 0, 143), (28, 0, 5), (29, 0, 5), (30, 0, 5), (31, 0, 5), (32, 0, 5), (33, 0, 5), (34, 0, 1), (35, 0, 59), (36, 0, 59), (37, 0, 59), (38, 0, 59), (39, 0, 4), (40, 0, 47), (41, 0, 47), (42, 0, 143), (43, 0, 5), (44, 0, 5), (45, 0, 5), (46, 0, 5), (47, 0, 5), (48, 0, 5), (49, 0, 1), (50, 0, 59), (51, 0, 59), (52, 0, 59), (53, 0, 59), (100, 3, 5), (100, 7, 8), (101, 0, 47), (102, 0, 47), (103, 0, 63), (104, 0, 47), (117, 2, 11), (118, 0, 59)]
theorem lck_143 : a_all (lCk (aG0 aG1) sLaw 614 143 0 [0, 0, 0] 0 lM_143 lQs) lQs = true := by decide +kernel
-- X12_arrivals
def lM_196 : aM := [(121, 0, 3), (121, 31, 31), (121, 33, 33), (121, 41, 47), (126, 0, 274), (127, 0, 274), (130, 0, 47), (132, 0, 48)]
theorem lck_196 : a_all (lCk (aG0 aG1) sLaw 614 196 121 [0, 0, 0] 0 lM_196 lQs) lQs = true := by decide +kernel
-- X11_mark
def lM_165 : aM := [(0, 0, 0), (0, 10, 10), (55, 0, 4), (56, 0, 47), (57, 0, 47), (58, 0, 143), (59, 0, 5), (60, 0, 5), (61, 0, 5), (62, 0, 5), (63, 0, 5), (64, 0, 5), (65, 0, 1), (66, 0, 59), (67, 0, 59), (68, 0, 59), (69, 0, 59), (70, 0, 4), (71, 0, 47), (72, 0, 47), (73, 0, 143), (74, 0, 5), (75, 0, 5), (76, 0, 5), (77, 0, 5), (78, 0, 5), (79, 0, 5), (80, 0, 1), (81, 0, 59), (82, 0, 59), (83, 0, 59), (84, 0, 59), (85, 0, 4), (86, 0, 47), (87, 0, 47), (88, 0, 143), (89, 0, 5), (90, 0, 5), (91, 0, 5), (92, 0, 5), (93, 0, 5), (94, 0, 5), (95, 0, 1), (96, 0, 59), (97, 0, 59), (98, 0, 59), (99, 0, 59)]
theorem lck_165 : a_all (lCk (aG0 aG1) sLaw 614 165 0 [] 0 lM_165 lQk) lQs = true := by decide +kernel
-- X12_mark
def lM_276 : aM := [(121, 0, 1), (121, 23, 23), (126, 550, 2199), (128, 6, 23)]
theorem lck_276 : a_all (lCk (aG0 aG1) sLaw 614 276 121 [] 0 lM_276 lQs) lQk = true := by decide +kernel
-- X11_back
def lM_144 : aM := [(0, 0, 0), (0, 10, 10), (24, 0, 4), (25, 0, 47), (26, 0, 47), (27, 0, 143), (28, 0, 5), (29, 0, 5), (30, 0, 5), (31, 0, 5), (32, 0, 5), (33, 0, 5), (34, 0, 1), (35, 0, 59), (36, 0, 59), (37, 0, 59), (38, 0, 59), (39, 0, 4), (40, 0, 47), (41, 0, 47), (42, 0, 143), (43, 0, 5), (44, 0, 5), (45, 0, 5), (46, 0, 5), (47, 0, 5), (48, 0, 5), (49, 0, 1), (50, 0, 59), (51, 0, 59), (52, 0, 59), (53, 0, 59)]
theorem lck_144 : a_all (lCk (aG0 aG1) sLaw 614 144 0 [] 0 lM_144 lQb) lQs = true := by decide +kernel
-- X12_back
def lM_199 : aM := [(121, 0, 1), (121, 23, 23), (126, 0, 549), (128, 0, 5)]
theorem lck_199 : a_all (lCk (aG0 aG1) sLaw 614 199 121 [] 0 lM_199 lQs) lQb = true := by decide +kernel
def lQA_0 : aQ := (1, [(0, (-9223372036854775808), 9223372036854775807)], [], [((0, 0, 7), (2, 0, 24)), ((0, 0, 8), (2, 0, 39)), ((0, 0, 10), (0, 0, 0)), ((121, 0, 23), (0, 0, 0))], [30, 61, 92, 123, 217, 218, 219, 220, 221, 222, 345, 346, 347, 348])
def lQA_1 : aQ := (5, [(4, 2, 8), (3, 1, 6), (2, 1, 3), (1, 0, 6), (0, (-9223372036854775808), 9223372036854775807)], [], [((0, 0, 7), (2, 0, 24)), ((0, 0, 8), (2, 0, 39)), ((126, 0, 553), (0, 2, 0)), ((126, 0, 552), (0, 3, 0)), ((126, 0, 551), (0, 4, 0)), ((126, 0, 550), (0, 5, 0)), ((121, 0, 23), (0, 0, 1)), ((0, 0, 10), (0, 0, 1))], [30, 61, 92, 123, 217, 218, 219, 220, 221, 222, 345, 346, 347, 348])
def lQA_2 : aQ := (9, [(8, 2, 8), (7, 1, 6), (6, 1, 3), (5, 0, 6), (4, 2, 8), (3, 1, 6), (2, 1, 3), (1, 0, 6), (0, (-9223372036854775808), 9223372036854775807)], [], [((0, 0, 7), (2, 0, 24)), ((0, 0, 8), (2, 0, 39)), ((126, 0, 1103), (0, 2, 0)), ((126, 0, 1102), (0, 3, 0)), ((126, 0, 1101), (0, 4, 0)), ((126, 0, 1100), (0, 5, 0)), ((121, 0, 23), (0, 0, 2)), ((0, 0, 10), (0, 0, 2)), ((126, 0, 553), (0, 6, 0)), ((126, 0, 552), (0, 7, 0)), ((126, 0, 551), (0, 8, 0)), ((126, 0, 550), (0, 9, 0))], [30, 61, 92, 123, 217, 218, 219, 220, 221, 222, 345, 346, 347, 348])
def lQA_3 : aQ := (13, [(12, 2, 8), (11, 1, 6), (10, 1, 3), (9, 0, 6), (8, 2, 8), (7, 1, 6), (6, 1, 3), (5, 0, 6), (4, 2, 8), (3, 1, 6), (2, 1, 3), (1, 0, 6), (0, (-9223372036854775808), 9223372036854775807)], [], [((0, 0, 7), (2, 0, 24)), ((0, 0, 8), (2, 0, 39)), ((126, 0, 1653), (0, 2, 0)), ((126, 0, 1652), (0, 3, 0)), ((126, 0, 1651), (0, 4, 0)), ((126, 0, 1650), (0, 5, 0)), ((121, 0, 23), (0, 0, 3)), ((0, 0, 10), (0, 0, 3)), ((126, 0, 1103), (0, 6, 0)), ((126, 0, 1102), (0, 7, 0)), ((126, 0, 1101), (0, 8, 0)), ((126, 0, 1100), (0, 9, 0)), ((126, 0, 553), (0, 10, 0)), ((126, 0, 552), (0, 11, 0)), ((126, 0, 551), (0, 12, 0)), ((126, 0, 550), (0, 13, 0))], [30, 61, 92, 123, 217, 218, 219, 220, 221, 222, 345, 346, 347, 348])
def lQA : List aQ := [lQA_0, lQA_1, lQA_2, lQA_3]
def lMA_143 : aM := [(0, 0, 2), (39, 0, 4), (40, 0, 47), (41, 0, 47), (42, 0, 143), (43, 0, 5), (44, 0, 5), (45, 0, 5), (46, 0, 5), (47, 0, 5), (48, 0, 5), (49, 0, 1), (50, 0, 59), (51, 0, 59), (52, 0, 59), (53, 0, 59), (100, 3, 5), (100, 7, 8), (101, 0, 47), (102, 0, 47), (103, 0, 63), (104, 0, 47), (117, 2, 11), (118, 0, 59)]
theorem lckA_143 : a_all (lCk (aG0 aG1) sLaw 614 143 0 [0, 0, 0] 0 lMA_143 lQs) lQA = true := by decide +kernel
def lQB_0 : aQ := (1, [(0, (-9223372036854775808), 9223372036854775807)], [], [((0, 0, 7), (2, 0, 39)), ((0, 0, 8), (2, 0, 24)), ((0, 0, 10), (0, 0, 0)), ((121, 0, 23), (0, 0, 0))], [30, 61, 92, 123, 217, 218, 219, 220, 221, 222, 345, 346, 347, 348])
def lQB_1 : aQ := (5, [(4, 2, 8), (3, 1, 6), (2, 1, 3), (1, 0, 6), (0, (-9223372036854775808), 9223372036854775807)], [], [((0, 0, 7), (2, 0, 39)), ((0, 0, 8), (2, 0, 24)), ((126, 0, 553), (0, 2, 0)), ((126, 0, 552), (0, 3, 0)), ((126, 0, 551), (0, 4, 0)), ((126, 0, 550), (0, 5, 0)), ((121, 0, 23), (0, 0, 1)), ((0, 0, 10), (0, 0, 1))], [30, 61, 92, 123, 217, 218, 219, 220, 221, 222, 345, 346, 347, 348])
def lQB_2 : aQ := (9, [(8, 2, 8), (7, 1, 6), (6, 1, 3), (5, 0, 6), (4, 2, 8), (3, 1, 6), (2, 1, 3), (1, 0, 6), (0, (-9223372036854775808), 9223372036854775807)], [], [((0, 0, 7), (2, 0, 39)), ((0, 0, 8), (2, 0, 24)), ((126, 0, 1103), (0, 2, 0)), ((126, 0, 1102), (0, 3, 0)), ((126, 0, 1101), (0, 4, 0)), ((126, 0, 1100), (0, 5, 0)), ((121, 0, 23), (0, 0, 2)), ((0, 0, 10), (0, 0, 2)), ((126, 0, 553), (0, 6, 0)), ((126, 0, 552), (0, 7, 0)), ((126, 0, 551), (0, 8, 0)), ((126, 0, 550), (0, 9, 0))], [30, 61, 92, 123, 217, 218, 219, 220, 221, 222, 345, 346, 347, 348])
def lQB_3 : aQ := (13, [(12, 2, 8), (11, 1, 6), (10, 1, 3), (9, 0, 6), (8, 2, 8), (7, 1, 6), (6, 1, 3), (5, 0, 6), (4, 2, 8), (3, 1, 6), (2, 1, 3), (1, 0, 6), (0, (-9223372036854775808), 9223372036854775807)], [], [((0, 0, 7), (2, 0, 39)), ((0, 0, 8), (2, 0, 24)), ((126, 0, 1653), (0, 2, 0)), ((126, 0, 1652), (0, 3, 0)), ((126, 0, 1651), (0, 4, 0)), ((126, 0, 1650), (0, 5, 0)), ((121, 0, 23), (0, 0, 3)), ((0, 0, 10), (0, 0, 3)), ((126, 0, 1103), (0, 6, 0)), ((126, 0, 1102), (0, 7, 0)), ((126, 0, 1101), (0, 8, 0)), ((126, 0, 1100), (0, 9, 0)), ((126, 0, 553), (0, 10, 0)), ((126, 0, 552), (0, 11, 0)), ((126, 0, 551), (0, 12, 0)), ((126, 0, 550), (0, 13, 0))], [30, 61, 92, 123, 217, 218, 219, 220, 221, 222, 345, 346, 347, 348])
def lQB : List aQ := [lQB_0, lQB_1, lQB_2, lQB_3]
def lMB_143 : aM := [(0, 0, 2), (24, 0, 4), (25, 0, 47), (26, 0, 47), (27, 0, 143), (28, 0, 5), (29, 0, 5), (30, 0, 5), (31, 0, 5), (32, 0, 5), (33, 0, 5), (34, 0, 1), (35, 0, 59), (36, 0, 59), (37, 0, 59), (38, 0, 59), (100, 3, 5), (100, 7, 8), (101, 0, 47), (102, 0, 47), (103, 0, 63), (104, 0, 47), (117, 2, 11), (118, 0, 59)]
theorem lckB_143 : a_all (lCk (aG0 aG1) sLaw 614 143 0 [0, 0, 0] 0 lMB_143 lQs) lQB = true := by decide +kernel
