section
/-! printed by wip/z/gen62a.py: the law from its loop on, as the concrete machine reads it -/
noncomputable def zt_L_0 : List (Option zX) := []
noncomputable def zh_L_0 : List zIx := []
noncomputable def zt_L_1 : List (Option zX) := [none, none, some (2, 19, 3, 0, (Int.ofNat 0), []), some (2, 20, 0, 2, (Int.ofNat 0), []), some (24, 21, 0, 0, (Int.ofNat 0), []), some (0, 23, 0, 0, (Int.ofNat 6), []), none, some (7, 24, 0, 1, (Int.ofNat 0), []), some (17, 27, 1756, 1, (Int.ofNat 0), []), none, none, some (2, 28, 0, 2, (Int.ofNat 0), []), some (2, 29, 3, 0, (Int.ofNat 0), []), some (22, 30, 0, 0, (Int.ofNat 0), []), some (0, 32, 0, 0, (Int.ofNat 63), [])]
noncomputable def zh_L_1 : List zIx := []
noncomputable def zt_L_2 : List (Option zX) := [some (7, 33, 0, 3, (Int.ofNat 0), []), some (19, 1750, 0, 0, (Int.ofNat 0), [((Int.ofNat 0), 232), ((Int.ofNat 1), 245), ((Int.ofNat 2), 258), ((Int.ofNat 3), 271), ((Int.ofNat 4), 314), ((Int.ofNat 5), 387), ((Int.ofNat 6), 420), ((Int.ofNat 7), 483), ((Int.ofNat 8), 546), ((Int.ofNat 9), 569), ((Int.ofNat 10), 592), ((Int.ofNat 11), 615), ((Int.ofNat 12), 638), ((Int.ofNat 13), 681), ((Int.ofNat 14), 724), ((Int.ofNat 15), 767), ((Int.ofNat 16), 800), ((Int.ofNat 17), 843), ((Int.ofNat 18), 886), ((Int.ofNat 19), 929), ((Int.ofNat 20), 972), ((Int.ofNat 21), 1005), ((Int.ofNat 22), 1038), ((Int.ofNat 23), 1071), ((Int.ofNat 24), 1094), ((Int.ofNat 25), 1117), ((Int.ofNat 26), 1150), ((Int.ofNat 27), 1173), ((Int.ofNat 28), 1186), ((Int.ofNat 29), 1209), ((Int.ofNat 30), 1232), ((Int.ofNat 31), 1265), ((Int.ofNat 32), 1278), ((Int.ofNat 33), 1311), ((Int.ofNat 34), 1354), ((Int.ofNat 35), 1377), ((Int.ofNat 36), 1420), ((Int.ofNat 37), 1453), ((Int.ofNat 38), 1486), ((Int.ofNat 39), 1529), ((Int.ofNat 40), 1592), ((Int.ofNat 41), 1635), ((Int.ofNat 42), 1658), ((Int.ofNat 43), 1681), ((Int.ofNat 44), 1724), ((Int.ofNat 45), 1737)])]
noncomputable def zh_L_2 : List zIx := []
noncomputable def zt_L_3 : List (Option zX) := []
noncomputable def zh_L_3 : List zIx := []
noncomputable def zt_L_4 : List (Option zX) := []
noncomputable def zh_L_4 : List zIx := []
noncomputable def zt_L_5 : List (Option zX) := []
noncomputable def zh_L_5 : List zIx := []
noncomputable def zt_L_6 : List (Option zX) := []
noncomputable def zh_L_6 : List zIx := []
noncomputable def zt_L_7 : List (Option zX) := []
noncomputable def zh_L_7 : List zIx := []
noncomputable def zt_L_8 : List (Option zX) := []
noncomputable def zh_L_8 : List zIx := []
noncomputable def zt_L_9 : List (Option zX) := []
noncomputable def zh_L_9 : List zIx := []
noncomputable def zt_L_10 : List (Option zX) := []
noncomputable def zh_L_10 : List zIx := []
noncomputable def zt_L_11 : List (Option zX) := []
noncomputable def zh_L_11 : List zIx := []
noncomputable def zt_L_12 : List (Option zX) := []
noncomputable def zh_L_12 : List zIx := []
noncomputable def zt_L_13 : List (Option zX) := []
noncomputable def zh_L_13 : List zIx := []
noncomputable def zt_L_14 : List (Option zX) := [none, none, none, none, none, none, none, none, some (2, 233, 1, 2, (Int.ofNat 0), []), some (29, 236, 181, 1, (Int.ofNat 11), [((Int.ofNat 0), 1)]), none, none, some (15, 237, 0, 0, (Int.ofNat 0), []), some (2, 238, 2, 2, (Int.ofNat 0), []), some (29, 241, 315, 1, (Int.ofNat 12), [((Int.ofNat 0), 1)])]
noncomputable def zh_L_14 : List zIx := [(0, 0), (0, 0), (0, 0), (0, 0), (0, 0), (0, 0), (0, 0), (0, 0), (0, 0), (3, 32), (0, 0), (0, 0), (0, 0), (0, 0), (7, 113)]
noncomputable def zt_L_15 : List (Option zX) := [none, some (15, 242, 0, 0, (Int.ofNat 0), []), some (1, 1750, 0, 0, (Int.ofNat 0), []), none, none, some (2, 246, 1, 2, (Int.ofNat 0), []), some (29, 249, 187, 1, (Int.ofNat 11), [((Int.ofNat 0), 1)]), none, none, some (15, 250, 0, 1, (Int.ofNat 0), []), some (2, 251, 2, 2, (Int.ofNat 0), []), some (29, 254, 328, 1, (Int.ofNat 12), [((Int.ofNat 0), 1)]), none, none, some (15, 255, 0, 1, (Int.ofNat 0), []), some (1, 1750, 0, 0, (Int.ofNat 0), [])]
noncomputable def zh_L_15 : List zIx := [(0, 0), (0, 0), (0, 0), (0, 0), (0, 0), (0, 0), (3, 36), (0, 0), (0, 0), (0, 0), (0, 0), (7, 117)]
noncomputable def zt_L_16 : List (Option zX) := [none, none, some (2, 259, 1, 2, (Int.ofNat 0), []), some (29, 262, 147, 1, (Int.ofNat 11), [((Int.ofNat 0), 1)]), none, none, some (15, 263, 0, 1, (Int.ofNat 0), []), some (2, 264, 2, 2, (Int.ofNat 0), []), some (29, 267, 204, 1, (Int.ofNat 12), [((Int.ofNat 0), 1)]), none, none, some (15, 268, 0, 1, (Int.ofNat 0), []), some (1, 1750, 0, 0, (Int.ofNat 0), []), none, none, some (2, 272, 1, 2, (Int.ofNat 0), [])]
noncomputable def zh_L_16 : List zIx := [(0, 0), (0, 0), (0, 0), (3, 40), (0, 0), (0, 0), (0, 0), (0, 0), (7, 121)]
noncomputable def zt_L_17 : List (Option zX) := [some (2, 273, 0, 2, (Int.ofNat 0), []), some (2, 274, 3, 0, (Int.ofNat 0), []), some (0, 275, 0, 0, (Int.ofNat 1), []), some (7, 276, 0, 0, (Int.ofNat 0), []), some (22, 277, 0, 0, (Int.ofNat 0), []), some (2, 278, 0, 2, (Int.ofNat 0), []), some (2, 279, 3, 0, (Int.ofNat 0), []), some (0, 280, 0, 0, (Int.ofNat 2), []), some (7, 281, 0, 0, (Int.ofNat 0), []), some (22, 282, 0, 0, (Int.ofNat 0), []), some (2, 283, 0, 2, (Int.ofNat 0), []), some (2, 284, 3, 0, (Int.ofNat 0), []), some (0, 285, 0, 0, (Int.ofNat 3), []), some (7, 286, 0, 0, (Int.ofNat 0), []), some (22, 287, 0, 0, (Int.ofNat 0), []), some (29, 290, 188, 4, (Int.ofNat 11), [((Int.ofNat 0), 4)])]
noncomputable def zh_L_17 : List zIx := [(0, 0), (0, 0), (0, 0), (0, 0), (0, 0), (0, 0), (0, 0), (0, 0), (0, 0), (0, 0), (0, 0), (0, 0), (0, 0), (0, 0), (0, 0), (3, 44)]
noncomputable def zt_L_18 : List (Option zX) := [none, none, some (15, 291, 0, 0, (Int.ofNat 0), []), some (2, 292, 2, 2, (Int.ofNat 0), []), some (2, 293, 0, 2, (Int.ofNat 0), []), some (2, 294, 3, 0, (Int.ofNat 0), []), some (0, 295, 0, 0, (Int.ofNat 1), []), some (7, 296, 0, 0, (Int.ofNat 0), []), some (22, 297, 0, 0, (Int.ofNat 0), []), some (2, 298, 0, 2, (Int.ofNat 0), []), some (2, 299, 3, 0, (Int.ofNat 0), []), some (0, 300, 0, 0, (Int.ofNat 2), []), some (7, 301, 0, 0, (Int.ofNat 0), []), some (22, 302, 0, 0, (Int.ofNat 0), []), some (2, 303, 0, 2, (Int.ofNat 0), []), some (2, 304, 3, 0, (Int.ofNat 0), [])]
noncomputable def zh_L_18 : List zIx := []
noncomputable def zt_L_19 : List (Option zX) := [some (0, 305, 0, 0, (Int.ofNat 3), []), some (7, 306, 0, 0, (Int.ofNat 0), []), some (22, 307, 0, 0, (Int.ofNat 0), []), some (29, 310, 329, 4, (Int.ofNat 12), [((Int.ofNat 0), 5)]), none, none, some (15, 311, 0, 0, (Int.ofNat 0), []), some (1, 1750, 0, 0, (Int.ofNat 0), []), none, none, some (2, 315, 1, 2, (Int.ofNat 0), []), some (2, 316, 0, 2, (Int.ofNat 0), []), some (2, 317, 3, 0, (Int.ofNat 0), []), some (0, 318, 0, 0, (Int.ofNat 1), []), some (7, 319, 0, 0, (Int.ofNat 0), []), some (22, 320, 0, 0, (Int.ofNat 0), [])]
noncomputable def zh_L_19 : List zIx := [(0, 0), (0, 0), (0, 0), (7, 125)]
noncomputable def zt_L_20 : List (Option zX) := [some (2, 321, 0, 2, (Int.ofNat 0), []), some (2, 322, 3, 0, (Int.ofNat 0), []), some (0, 323, 0, 0, (Int.ofNat 2), []), some (7, 324, 0, 0, (Int.ofNat 0), []), some (22, 325, 0, 0, (Int.ofNat 0), []), some (2, 326, 0, 2, (Int.ofNat 0), []), some (2, 327, 3, 0, (Int.ofNat 0), []), some (0, 328, 0, 0, (Int.ofNat 3), []), some (7, 329, 0, 0, (Int.ofNat 0), []), some (22, 330, 0, 0, (Int.ofNat 0), []), some (13, 331, 0, 0, (Int.ofNat 0), []), some (0, 333, 0, 0, (Int.ofNat 32), []), none, some (12, 334, 0, 0, (Int.ofNat 0), []), some (2, 335, 0, 2, (Int.ofNat 0), []), some (2, 336, 3, 0, (Int.ofNat 0), [])]
noncomputable def zh_L_20 : List zIx := []
noncomputable def zt_L_21 : List (Option zX) := [some (0, 337, 0, 0, (Int.ofNat 4), []), some (7, 338, 0, 0, (Int.ofNat 0), []), some (22, 339, 0, 0, (Int.ofNat 0), []), some (13, 340, 0, 0, (Int.ofNat 0), []), some (0, 343, 1, 0, (Int.ofNat 4294967295), []), none, none, some (10, 344, 0, 3, (Int.ofNat 0), []), some (10, 345, 0, 4, (Int.ofNat 0), []), some (29, 348, 195, 4, (Int.ofNat 11), [((Int.ofNat 0), 7)]), none, none, some (15, 349, 0, 0, (Int.ofNat 0), []), some (2, 350, 2, 2, (Int.ofNat 0), []), some (2, 351, 0, 2, (Int.ofNat 0), []), some (2, 352, 3, 0, (Int.ofNat 0), [])]
noncomputable def zh_L_21 : List zIx := [(0, 0), (0, 0), (0, 0), (0, 0), (9, 223), (0, 0), (0, 0), (0, 0), (0, 0), (3, 69)]
noncomputable def zt_L_22 : List (Option zX) := [some (0, 353, 0, 0, (Int.ofNat 1), []), some (7, 354, 0, 0, (Int.ofNat 0), []), some (22, 355, 0, 0, (Int.ofNat 0), []), some (2, 356, 0, 2, (Int.ofNat 0), []), some (2, 357, 3, 0, (Int.ofNat 0), []), some (0, 358, 0, 0, (Int.ofNat 2), []), some (7, 359, 0, 0, (Int.ofNat 0), []), some (22, 360, 0, 0, (Int.ofNat 0), []), some (2, 361, 0, 2, (Int.ofNat 0), []), some (2, 362, 3, 0, (Int.ofNat 0), []), some (0, 363, 0, 0, (Int.ofNat 3), []), some (7, 364, 0, 0, (Int.ofNat 0), []), some (22, 365, 0, 0, (Int.ofNat 0), []), some (13, 366, 0, 0, (Int.ofNat 0), []), some (0, 368, 0, 0, (Int.ofNat 32), [])]
noncomputable def zh_L_22 : List zIx := []
noncomputable def zt_L_23 : List (Option zX) := [some (12, 369, 0, 0, (Int.ofNat 0), []), some (2, 370, 0, 2, (Int.ofNat 0), []), some (2, 371, 3, 0, (Int.ofNat 0), []), some (0, 372, 0, 0, (Int.ofNat 4), []), some (7, 373, 0, 0, (Int.ofNat 0), []), some (22, 374, 0, 0, (Int.ofNat 0), []), some (13, 375, 0, 0, (Int.ofNat 0), []), some (0, 378, 1, 0, (Int.ofNat 4294967295), []), none, none, some (10, 379, 0, 3, (Int.ofNat 0), []), some (10, 380, 0, 4, (Int.ofNat 0), []), some (29, 383, 339, 4, (Int.ofNat 12), [((Int.ofNat 0), 5)]), none, none, some (15, 384, 0, 0, (Int.ofNat 0), [])]
noncomputable def zh_L_23 : List zIx := [(0, 0), (0, 0), (0, 0), (0, 0), (0, 0), (0, 0), (0, 0), (9, 223), (0, 0), (0, 0), (0, 0), (0, 0), (7, 133)]
noncomputable def zt_L_24 : List (Option zX) := [some (1, 1750, 0, 0, (Int.ofNat 0), []), none, none, some (2, 388, 1, 2, (Int.ofNat 0), []), some (2, 389, 0, 2, (Int.ofNat 0), []), some (2, 390, 3, 0, (Int.ofNat 0), []), some (0, 391, 0, 0, (Int.ofNat 1), []), some (7, 392, 0, 0, (Int.ofNat 0), []), some (22, 393, 0, 0, (Int.ofNat 0), []), some (2, 394, 0, 2, (Int.ofNat 0), []), some (2, 395, 3, 0, (Int.ofNat 0), []), some (0, 396, 0, 0, (Int.ofNat 2), []), some (7, 397, 0, 0, (Int.ofNat 0), []), some (22, 398, 0, 0, (Int.ofNat 0), []), some (29, 401, 175, 3, (Int.ofNat 11), [((Int.ofNat 0), 4)])]
noncomputable def zh_L_24 : List zIx := [(0, 0), (0, 0), (0, 0), (0, 0), (0, 0), (0, 0), (0, 0), (0, 0), (0, 0), (0, 0), (0, 0), (0, 0), (0, 0), (0, 0), (3, 89)]
noncomputable def zt_L_25 : List (Option zX) := [none, some (15, 402, 0, 1, (Int.ofNat 0), []), some (2, 403, 2, 2, (Int.ofNat 0), []), some (2, 404, 0, 2, (Int.ofNat 0), []), some (2, 405, 3, 0, (Int.ofNat 0), []), some (0, 406, 0, 0, (Int.ofNat 1), []), some (7, 407, 0, 0, (Int.ofNat 0), []), some (22, 408, 0, 0, (Int.ofNat 0), []), some (2, 409, 0, 2, (Int.ofNat 0), []), some (2, 410, 3, 0, (Int.ofNat 0), []), some (0, 411, 0, 0, (Int.ofNat 2), []), some (7, 412, 0, 0, (Int.ofNat 0), []), some (22, 413, 0, 0, (Int.ofNat 0), []), some (29, 416, 294, 3, (Int.ofNat 12), [((Int.ofNat 0), 3)])]
noncomputable def zh_L_25 : List zIx := [(0, 0), (0, 0), (0, 0), (0, 0), (0, 0), (0, 0), (0, 0), (0, 0), (0, 0), (0, 0), (0, 0), (0, 0), (0, 0), (7, 148)]
noncomputable def zt_L_26 : List (Option zX) := [some (15, 417, 0, 1, (Int.ofNat 0), []), some (1, 1750, 0, 0, (Int.ofNat 0), []), none, none, some (2, 421, 1, 2, (Int.ofNat 0), []), some (2, 422, 0, 2, (Int.ofNat 0), []), some (2, 423, 3, 0, (Int.ofNat 0), []), some (0, 424, 0, 0, (Int.ofNat 1), []), some (7, 425, 0, 0, (Int.ofNat 0), []), some (22, 426, 0, 0, (Int.ofNat 0), []), some (2, 427, 0, 2, (Int.ofNat 0), []), some (2, 428, 3, 0, (Int.ofNat 0), []), some (0, 429, 0, 0, (Int.ofNat 2), []), some (7, 430, 0, 0, (Int.ofNat 0), []), some (22, 431, 0, 0, (Int.ofNat 0), []), some (2, 432, 0, 2, (Int.ofNat 0), [])]
noncomputable def zh_L_26 : List zIx := []
noncomputable def zt_L_27 : List (Option zX) := [some (2, 433, 3, 0, (Int.ofNat 0), []), some (0, 434, 0, 0, (Int.ofNat 3), []), some (7, 435, 0, 0, (Int.ofNat 0), []), some (22, 436, 0, 0, (Int.ofNat 0), []), some (2, 437, 0, 2, (Int.ofNat 0), []), some (2, 438, 3, 0, (Int.ofNat 0), []), some (0, 439, 0, 0, (Int.ofNat 4), []), some (7, 440, 0, 0, (Int.ofNat 0), []), some (22, 441, 0, 0, (Int.ofNat 0), []), some (2, 442, 0, 2, (Int.ofNat 0), []), some (2, 443, 3, 0, (Int.ofNat 0), []), some (0, 444, 0, 0, (Int.ofNat 5), []), some (7, 445, 0, 0, (Int.ofNat 0), []), some (22, 446, 0, 0, (Int.ofNat 0), []), some (29, 449, 172, 6, (Int.ofNat 11), [((Int.ofNat 0), 8)])]
noncomputable def zh_L_27 : List zIx := [(0, 0), (0, 0), (0, 0), (0, 0), (0, 0), (0, 0), (0, 0), (0, 0), (0, 0), (0, 0), (0, 0), (0, 0), (0, 0), (0, 0), (3, 97)]
noncomputable def zt_L_28 : List (Option zX) := [none, some (15, 450, 0, 0, (Int.ofNat 0), []), some (2, 451, 2, 2, (Int.ofNat 0), []), some (2, 452, 0, 2, (Int.ofNat 0), []), some (2, 453, 3, 0, (Int.ofNat 0), []), some (0, 454, 0, 0, (Int.ofNat 1), []), some (7, 455, 0, 0, (Int.ofNat 0), []), some (22, 456, 0, 0, (Int.ofNat 0), []), some (2, 457, 0, 2, (Int.ofNat 0), []), some (2, 458, 3, 0, (Int.ofNat 0), []), some (0, 459, 0, 0, (Int.ofNat 2), []), some (7, 460, 0, 0, (Int.ofNat 0), []), some (22, 461, 0, 0, (Int.ofNat 0), []), some (2, 462, 0, 2, (Int.ofNat 0), []), some (2, 463, 3, 0, (Int.ofNat 0), []), some (0, 464, 0, 0, (Int.ofNat 3), [])]
noncomputable def zh_L_28 : List zIx := []
noncomputable def zt_L_29 : List (Option zX) := [some (7, 465, 0, 0, (Int.ofNat 0), []), some (22, 466, 0, 0, (Int.ofNat 0), []), some (2, 467, 0, 2, (Int.ofNat 0), []), some (2, 468, 3, 0, (Int.ofNat 0), []), some (0, 469, 0, 0, (Int.ofNat 4), []), some (7, 470, 0, 0, (Int.ofNat 0), []), some (22, 471, 0, 0, (Int.ofNat 0), []), some (2, 472, 0, 2, (Int.ofNat 0), []), some (2, 473, 3, 0, (Int.ofNat 0), []), some (0, 474, 0, 0, (Int.ofNat 5), []), some (7, 475, 0, 0, (Int.ofNat 0), []), some (22, 476, 0, 0, (Int.ofNat 0), []), some (29, 479, 291, 6, (Int.ofNat 12), [((Int.ofNat 0), 9)]), none, none, some (15, 480, 0, 0, (Int.ofNat 0), [])]
noncomputable def zh_L_29 : List zIx := [(0, 0), (0, 0), (0, 0), (0, 0), (0, 0), (0, 0), (0, 0), (0, 0), (0, 0), (0, 0), (0, 0), (0, 0), (7, 153)]
noncomputable def zt_L_30 : List (Option zX) := [some (1, 1750, 0, 0, (Int.ofNat 0), []), none, none, some (2, 484, 1, 2, (Int.ofNat 0), []), some (2, 485, 0, 2, (Int.ofNat 0), []), some (2, 486, 3, 0, (Int.ofNat 0), []), some (0, 487, 0, 0, (Int.ofNat 1), []), some (7, 488, 0, 0, (Int.ofNat 0), []), some (22, 489, 0, 0, (Int.ofNat 0), []), some (2, 490, 0, 2, (Int.ofNat 0), []), some (2, 491, 3, 0, (Int.ofNat 0), []), some (0, 492, 0, 0, (Int.ofNat 2), []), some (7, 493, 0, 0, (Int.ofNat 0), []), some (22, 494, 0, 0, (Int.ofNat 0), []), some (2, 495, 0, 2, (Int.ofNat 0), []), some (2, 496, 3, 0, (Int.ofNat 0), [])]
noncomputable def zh_L_30 : List zIx := []
noncomputable def zt_L_31 : List (Option zX) := [some (0, 497, 0, 0, (Int.ofNat 3), []), some (7, 498, 0, 0, (Int.ofNat 0), []), some (22, 499, 0, 0, (Int.ofNat 0), []), some (2, 500, 0, 2, (Int.ofNat 0), []), some (2, 501, 3, 0, (Int.ofNat 0), []), some (0, 502, 0, 0, (Int.ofNat 4), []), some (7, 503, 0, 0, (Int.ofNat 0), []), some (22, 504, 0, 0, (Int.ofNat 0), []), some (2, 505, 0, 2, (Int.ofNat 0), []), some (2, 506, 3, 0, (Int.ofNat 0), []), some (0, 507, 0, 0, (Int.ofNat 5), []), some (7, 508, 0, 0, (Int.ofNat 0), []), some (22, 509, 0, 0, (Int.ofNat 0), []), some (29, 512, 155, 6, (Int.ofNat 11), [((Int.ofNat 0), 6)])]
noncomputable def zh_L_31 : List zIx := [(0, 0), (0, 0), (0, 0), (0, 0), (0, 0), (0, 0), (0, 0), (0, 0), (0, 0), (0, 0), (0, 0), (0, 0), (0, 0), (3, 104)]
noncomputable def zt_L_32 : List (Option zX) := [some (15, 513, 0, 0, (Int.ofNat 0), []), some (2, 514, 2, 2, (Int.ofNat 0), []), some (2, 515, 0, 2, (Int.ofNat 0), []), some (2, 516, 3, 0, (Int.ofNat 0), []), some (0, 517, 0, 0, (Int.ofNat 1), []), some (7, 518, 0, 0, (Int.ofNat 0), []), some (22, 519, 0, 0, (Int.ofNat 0), []), some (2, 520, 0, 2, (Int.ofNat 0), []), some (2, 521, 3, 0, (Int.ofNat 0), []), some (0, 522, 0, 0, (Int.ofNat 2), []), some (7, 523, 0, 0, (Int.ofNat 0), []), some (22, 524, 0, 0, (Int.ofNat 0), []), some (2, 525, 0, 2, (Int.ofNat 0), []), some (2, 526, 3, 0, (Int.ofNat 0), []), some (0, 527, 0, 0, (Int.ofNat 3), []), some (7, 528, 0, 0, (Int.ofNat 0), [])]
noncomputable def zh_L_32 : List zIx := []
noncomputable def zt_L_33 : List (Option zX) := [some (22, 529, 0, 0, (Int.ofNat 0), []), some (2, 530, 0, 2, (Int.ofNat 0), []), some (2, 531, 3, 0, (Int.ofNat 0), []), some (0, 532, 0, 0, (Int.ofNat 4), []), some (7, 533, 0, 0, (Int.ofNat 0), []), some (22, 534, 0, 0, (Int.ofNat 0), []), some (2, 535, 0, 2, (Int.ofNat 0), []), some (2, 536, 3, 0, (Int.ofNat 0), []), some (0, 537, 0, 0, (Int.ofNat 5), []), some (7, 538, 0, 0, (Int.ofNat 0), []), some (22, 539, 0, 0, (Int.ofNat 0), []), some (29, 542, 227, 6, (Int.ofNat 12), [((Int.ofNat 0), 6)]), none, none, some (15, 543, 0, 0, (Int.ofNat 0), []), some (1, 1750, 0, 0, (Int.ofNat 0), [])]
noncomputable def zh_L_33 : List zIx := [(0, 0), (0, 0), (0, 0), (0, 0), (0, 0), (0, 0), (0, 0), (0, 0), (0, 0), (0, 0), (0, 0), (7, 157)]
noncomputable def zt_L_34 : List (Option zX) := [none, none, some (2, 547, 1, 2, (Int.ofNat 0), []), some (2, 548, 0, 2, (Int.ofNat 0), []), some (2, 549, 3, 0, (Int.ofNat 0), []), some (0, 550, 0, 0, (Int.ofNat 1), []), some (7, 551, 0, 0, (Int.ofNat 0), []), some (22, 552, 0, 0, (Int.ofNat 0), []), some (29, 555, 162, 2, (Int.ofNat 11), [((Int.ofNat 0), 4)]), none, none, some (15, 556, 0, 0, (Int.ofNat 0), []), some (2, 557, 2, 2, (Int.ofNat 0), []), some (2, 558, 0, 2, (Int.ofNat 0), []), some (2, 559, 3, 0, (Int.ofNat 0), []), some (0, 560, 0, 0, (Int.ofNat 1), [])]
noncomputable def zh_L_34 : List zIx := [(0, 0), (0, 0), (0, 0), (0, 0), (0, 0), (0, 0), (0, 0), (0, 0), (3, 116)]
noncomputable def zt_L_35 : List (Option zX) := [some (7, 561, 0, 0, (Int.ofNat 0), []), some (22, 562, 0, 0, (Int.ofNat 0), []), some (29, 565, 268, 2, (Int.ofNat 12), [((Int.ofNat 0), 3)]), none, none, some (15, 566, 0, 0, (Int.ofNat 0), []), some (1, 1750, 0, 0, (Int.ofNat 0), []), none, none, some (2, 570, 1, 2, (Int.ofNat 0), []), some (2, 571, 0, 2, (Int.ofNat 0), []), some (2, 572, 3, 0, (Int.ofNat 0), []), some (0, 573, 0, 0, (Int.ofNat 1), []), some (7, 574, 0, 0, (Int.ofNat 0), []), some (22, 575, 0, 0, (Int.ofNat 0), []), some (29, 578, 170, 2, (Int.ofNat 11), [((Int.ofNat 0), 3)])]
noncomputable def zh_L_35 : List zIx := [(0, 0), (0, 0), (7, 169), (0, 0), (0, 0), (0, 0), (0, 0), (0, 0), (0, 0), (0, 0), (0, 0), (0, 0), (0, 0), (0, 0), (0, 0), (4, 86)]
noncomputable def zt_L_36 : List (Option zX) := [none, none, some (15, 579, 0, 0, (Int.ofNat 0), []), some (2, 580, 2, 2, (Int.ofNat 0), []), some (2, 581, 0, 2, (Int.ofNat 0), []), some (2, 582, 3, 0, (Int.ofNat 0), []), some (0, 583, 0, 0, (Int.ofNat 1), []), some (7, 584, 0, 0, (Int.ofNat 0), []), some (22, 585, 0, 0, (Int.ofNat 0), []), some (29, 588, 289, 2, (Int.ofNat 12), [((Int.ofNat 0), 3)]), none, none, some (15, 589, 0, 0, (Int.ofNat 0), []), some (1, 1750, 0, 0, (Int.ofNat 0), [])]
noncomputable def zh_L_36 : List zIx := [(0, 0), (0, 0), (0, 0), (0, 0), (0, 0), (0, 0), (0, 0), (0, 0), (0, 0), (8, 76)]
noncomputable def zt_L_37 : List (Option zX) := [some (2, 593, 1, 2, (Int.ofNat 0), []), some (2, 594, 0, 2, (Int.ofNat 0), []), some (2, 595, 3, 0, (Int.ofNat 0), []), some (0, 596, 0, 0, (Int.ofNat 1), []), some (7, 597, 0, 0, (Int.ofNat 0), []), some (22, 598, 0, 0, (Int.ofNat 0), []), some (29, 601, 154, 2, (Int.ofNat 11), [((Int.ofNat 0), 2)]), none, none, some (15, 602, 0, 0, (Int.ofNat 0), []), some (2, 603, 2, 2, (Int.ofNat 0), []), some (2, 604, 0, 2, (Int.ofNat 0), []), some (2, 605, 3, 0, (Int.ofNat 0), []), some (0, 606, 0, 0, (Int.ofNat 1), []), some (7, 607, 0, 0, (Int.ofNat 0), []), some (22, 608, 0, 0, (Int.ofNat 0), [])]
noncomputable def zh_L_37 : List zIx := [(0, 0), (0, 0), (0, 0), (0, 0), (0, 0), (0, 0), (4, 168)]
noncomputable def zt_L_38 : List (Option zX) := [some (29, 611, 226, 2, (Int.ofNat 12), [((Int.ofNat 0), 2)]), none, none, some (15, 612, 0, 0, (Int.ofNat 0), []), some (1, 1750, 0, 0, (Int.ofNat 0), []), none, none, some (2, 616, 1, 2, (Int.ofNat 0), []), some (2, 617, 0, 2, (Int.ofNat 0), []), some (2, 618, 3, 0, (Int.ofNat 0), []), some (0, 619, 0, 0, (Int.ofNat 1), []), some (7, 620, 0, 0, (Int.ofNat 0), []), some (22, 621, 0, 0, (Int.ofNat 0), []), some (29, 624, 163, 2, (Int.ofNat 11), [((Int.ofNat 0), 2)])]
noncomputable def zh_L_38 : List zIx := [(7, 165), (0, 0), (0, 0), (0, 0), (0, 0), (0, 0), (0, 0), (0, 0), (0, 0), (0, 0), (0, 0), (0, 0), (0, 0), (4, 172)]
noncomputable def zt_L_39 : List (Option zX) := [some (15, 625, 0, 0, (Int.ofNat 0), []), some (2, 626, 2, 2, (Int.ofNat 0), []), some (2, 627, 0, 2, (Int.ofNat 0), []), some (2, 628, 3, 0, (Int.ofNat 0), []), some (0, 629, 0, 0, (Int.ofNat 1), []), some (7, 630, 0, 0, (Int.ofNat 0), []), some (22, 631, 0, 0, (Int.ofNat 0), []), some (29, 634, 273, 2, (Int.ofNat 12), [((Int.ofNat 0), 2)]), none, none, some (15, 635, 0, 0, (Int.ofNat 0), []), some (1, 1750, 0, 0, (Int.ofNat 0), []), none, none, some (2, 639, 1, 2, (Int.ofNat 0), []), some (2, 640, 0, 2, (Int.ofNat 0), [])]
noncomputable def zh_L_39 : List zIx := [(0, 0), (0, 0), (0, 0), (0, 0), (0, 0), (0, 0), (0, 0), (8, 100)]
noncomputable def zt_L_40 : List (Option zX) := [some (2, 641, 3, 0, (Int.ofNat 0), []), some (0, 642, 0, 0, (Int.ofNat 1), []), some (7, 643, 0, 0, (Int.ofNat 0), []), some (22, 644, 0, 0, (Int.ofNat 0), []), some (2, 645, 0, 2, (Int.ofNat 0), []), some (2, 646, 3, 0, (Int.ofNat 0), []), some (0, 647, 0, 0, (Int.ofNat 2), []), some (7, 648, 0, 0, (Int.ofNat 0), []), some (22, 649, 0, 0, (Int.ofNat 0), []), some (2, 650, 0, 2, (Int.ofNat 0), []), some (2, 651, 3, 0, (Int.ofNat 0), []), some (0, 652, 0, 0, (Int.ofNat 3), []), some (7, 653, 0, 0, (Int.ofNat 0), []), some (22, 654, 0, 0, (Int.ofNat 0), []), some (29, 657, 156, 4, (Int.ofNat 11), [((Int.ofNat 0), 5)])]
noncomputable def zh_L_40 : List zIx := [(0, 0), (0, 0), (0, 0), (0, 0), (0, 0), (0, 0), (0, 0), (0, 0), (0, 0), (0, 0), (0, 0), (0, 0), (0, 0), (0, 0), (4, 204)]
noncomputable def zt_L_41 : List (Option zX) := [none, some (15, 658, 0, 0, (Int.ofNat 0), []), some (2, 659, 2, 2, (Int.ofNat 0), []), some (2, 660, 0, 2, (Int.ofNat 0), []), some (2, 661, 3, 0, (Int.ofNat 0), []), some (0, 662, 0, 0, (Int.ofNat 1), []), some (7, 663, 0, 0, (Int.ofNat 0), []), some (22, 664, 0, 0, (Int.ofNat 0), []), some (2, 665, 0, 2, (Int.ofNat 0), []), some (2, 666, 3, 0, (Int.ofNat 0), []), some (0, 667, 0, 0, (Int.ofNat 2), []), some (7, 668, 0, 0, (Int.ofNat 0), []), some (22, 669, 0, 0, (Int.ofNat 0), []), some (2, 670, 0, 2, (Int.ofNat 0), []), some (2, 671, 3, 0, (Int.ofNat 0), []), some (0, 672, 0, 0, (Int.ofNat 3), [])]
noncomputable def zh_L_41 : List zIx := []
noncomputable def zt_L_42 : List (Option zX) := [some (7, 673, 0, 0, (Int.ofNat 0), []), some (22, 674, 0, 0, (Int.ofNat 0), []), some (29, 677, 233, 4, (Int.ofNat 12), [((Int.ofNat 0), 5)]), none, none, some (15, 678, 0, 0, (Int.ofNat 0), []), some (1, 1750, 0, 0, (Int.ofNat 0), []), none, none, some (2, 682, 1, 2, (Int.ofNat 0), []), some (2, 683, 0, 2, (Int.ofNat 0), []), some (2, 684, 3, 0, (Int.ofNat 0), []), some (0, 685, 0, 0, (Int.ofNat 1), []), some (7, 686, 0, 0, (Int.ofNat 0), []), some (22, 687, 0, 0, (Int.ofNat 0), []), some (2, 688, 0, 2, (Int.ofNat 0), [])]
noncomputable def zh_L_42 : List zIx := [(0, 0), (0, 0), (8, 130)]
noncomputable def zt_L_43 : List (Option zX) := [some (2, 689, 3, 0, (Int.ofNat 0), []), some (0, 690, 0, 0, (Int.ofNat 2), []), some (7, 691, 0, 0, (Int.ofNat 0), []), some (22, 692, 0, 0, (Int.ofNat 0), []), some (2, 693, 0, 2, (Int.ofNat 0), []), some (2, 694, 3, 0, (Int.ofNat 0), []), some (0, 695, 0, 0, (Int.ofNat 3), []), some (7, 696, 0, 0, (Int.ofNat 0), []), some (22, 697, 0, 0, (Int.ofNat 0), []), some (29, 700, 148, 4, (Int.ofNat 11), [((Int.ofNat 0), 4)]), none, none, some (15, 701, 0, 0, (Int.ofNat 0), []), some (2, 702, 2, 2, (Int.ofNat 0), []), some (2, 703, 0, 2, (Int.ofNat 0), []), some (2, 704, 3, 0, (Int.ofNat 0), [])]
noncomputable def zh_L_43 : List zIx := [(0, 0), (0, 0), (0, 0), (0, 0), (0, 0), (0, 0), (0, 0), (0, 0), (0, 0), (4, 219)]
noncomputable def zt_L_44 : List (Option zX) := [some (0, 705, 0, 0, (Int.ofNat 1), []), some (7, 706, 0, 0, (Int.ofNat 0), []), some (22, 707, 0, 0, (Int.ofNat 0), []), some (2, 708, 0, 2, (Int.ofNat 0), []), some (2, 709, 3, 0, (Int.ofNat 0), []), some (0, 710, 0, 0, (Int.ofNat 2), []), some (7, 711, 0, 0, (Int.ofNat 0), []), some (22, 712, 0, 0, (Int.ofNat 0), []), some (2, 713, 0, 2, (Int.ofNat 0), []), some (2, 714, 3, 0, (Int.ofNat 0), []), some (0, 715, 0, 0, (Int.ofNat 3), []), some (7, 716, 0, 0, (Int.ofNat 0), []), some (22, 717, 0, 0, (Int.ofNat 0), []), some (29, 720, 205, 4, (Int.ofNat 12), [((Int.ofNat 0), 4)])]
noncomputable def zh_L_44 : List zIx := [(0, 0), (0, 0), (0, 0), (0, 0), (0, 0), (0, 0), (0, 0), (0, 0), (0, 0), (0, 0), (0, 0), (0, 0), (0, 0), (8, 142)]
noncomputable def zt_L_45 : List (Option zX) := [some (15, 721, 0, 0, (Int.ofNat 0), []), some (1, 1750, 0, 0, (Int.ofNat 0), []), none, none, some (2, 725, 1, 2, (Int.ofNat 0), []), some (2, 726, 0, 2, (Int.ofNat 0), []), some (2, 727, 3, 0, (Int.ofNat 0), []), some (0, 728, 0, 0, (Int.ofNat 1), []), some (7, 729, 0, 0, (Int.ofNat 0), []), some (22, 730, 0, 0, (Int.ofNat 0), []), some (2, 731, 0, 2, (Int.ofNat 0), []), some (2, 732, 3, 0, (Int.ofNat 0), []), some (0, 733, 0, 0, (Int.ofNat 2), []), some (7, 734, 0, 0, (Int.ofNat 0), []), some (22, 735, 0, 0, (Int.ofNat 0), []), some (2, 736, 0, 2, (Int.ofNat 0), [])]
noncomputable def zh_L_45 : List zIx := []
noncomputable def zt_L_46 : List (Option zX) := [some (2, 737, 3, 0, (Int.ofNat 0), []), some (0, 738, 0, 0, (Int.ofNat 3), []), some (7, 739, 0, 0, (Int.ofNat 0), []), some (22, 740, 0, 0, (Int.ofNat 0), []), some (29, 743, 180, 4, (Int.ofNat 11), [((Int.ofNat 0), 4)]), none, none, some (15, 744, 0, 0, (Int.ofNat 0), []), some (2, 745, 2, 2, (Int.ofNat 0), []), some (2, 746, 0, 2, (Int.ofNat 0), []), some (2, 747, 3, 0, (Int.ofNat 0), []), some (0, 748, 0, 0, (Int.ofNat 1), []), some (7, 749, 0, 0, (Int.ofNat 0), []), some (22, 750, 0, 0, (Int.ofNat 0), []), some (2, 751, 0, 2, (Int.ofNat 0), []), some (2, 752, 3, 0, (Int.ofNat 0), [])]
noncomputable def zh_L_46 : List zIx := [(0, 0), (0, 0), (0, 0), (0, 0), (4, 232)]
noncomputable def zt_L_47 : List (Option zX) := [some (0, 753, 0, 0, (Int.ofNat 2), []), some (7, 754, 0, 0, (Int.ofNat 0), []), some (22, 755, 0, 0, (Int.ofNat 0), []), some (2, 756, 0, 2, (Int.ofNat 0), []), some (2, 757, 3, 0, (Int.ofNat 0), []), some (0, 758, 0, 0, (Int.ofNat 3), []), some (7, 759, 0, 0, (Int.ofNat 0), []), some (22, 760, 0, 0, (Int.ofNat 0), []), some (29, 763, 310, 4, (Int.ofNat 12), [((Int.ofNat 0), 4)]), none, none, some (15, 764, 0, 0, (Int.ofNat 0), []), some (1, 1750, 0, 0, (Int.ofNat 0), []), none, none, some (2, 768, 1, 2, (Int.ofNat 0), [])]
noncomputable def zh_L_47 : List zIx := [(0, 0), (0, 0), (0, 0), (0, 0), (0, 0), (0, 0), (0, 0), (0, 0), (8, 150)]
noncomputable def zt_L_48 : List (Option zX) := [some (2, 769, 0, 2, (Int.ofNat 0), []), some (2, 770, 3, 0, (Int.ofNat 0), []), some (0, 771, 0, 0, (Int.ofNat 1), []), some (7, 772, 0, 0, (Int.ofNat 0), []), some (22, 773, 0, 0, (Int.ofNat 0), []), some (2, 774, 0, 2, (Int.ofNat 0), []), some (2, 775, 3, 0, (Int.ofNat 0), []), some (0, 776, 0, 0, (Int.ofNat 2), []), some (7, 777, 0, 0, (Int.ofNat 0), []), some (22, 778, 0, 0, (Int.ofNat 0), []), some (29, 781, 151, 3, (Int.ofNat 11), [((Int.ofNat 0), 3)]), none, none, some (15, 782, 0, 0, (Int.ofNat 0), []), some (2, 783, 2, 2, (Int.ofNat 0), []), some (2, 784, 0, 2, (Int.ofNat 0), [])]
noncomputable def zh_L_48 : List zIx := [(0, 0), (0, 0), (0, 0), (0, 0), (0, 0), (0, 0), (0, 0), (0, 0), (0, 0), (0, 0), (5, 0)]
noncomputable def zt_L_49 : List (Option zX) := [some (2, 785, 3, 0, (Int.ofNat 0), []), some (0, 786, 0, 0, (Int.ofNat 1), []), some (7, 787, 0, 0, (Int.ofNat 0), []), some (22, 788, 0, 0, (Int.ofNat 0), []), some (2, 789, 0, 2, (Int.ofNat 0), []), some (2, 790, 3, 0, (Int.ofNat 0), []), some (0, 791, 0, 0, (Int.ofNat 2), []), some (7, 792, 0, 0, (Int.ofNat 0), []), some (22, 793, 0, 0, (Int.ofNat 0), []), some (29, 796, 209, 3, (Int.ofNat 12), [((Int.ofNat 0), 3)]), none, none, some (15, 797, 0, 0, (Int.ofNat 0), []), some (1, 1750, 0, 0, (Int.ofNat 0), [])]
noncomputable def zh_L_49 : List zIx := [(0, 0), (0, 0), (0, 0), (0, 0), (0, 0), (0, 0), (0, 0), (0, 0), (0, 0), (8, 158)]
noncomputable def zt_L_50 : List (Option zX) := [some (2, 801, 1, 2, (Int.ofNat 0), []), some (2, 802, 0, 2, (Int.ofNat 0), []), some (2, 803, 3, 0, (Int.ofNat 0), []), some (0, 804, 0, 0, (Int.ofNat 1), []), some (7, 805, 0, 0, (Int.ofNat 0), []), some (22, 806, 0, 0, (Int.ofNat 0), []), some (2, 807, 0, 2, (Int.ofNat 0), []), some (2, 808, 3, 0, (Int.ofNat 0), []), some (0, 809, 0, 0, (Int.ofNat 2), []), some (7, 810, 0, 0, (Int.ofNat 0), []), some (22, 811, 0, 0, (Int.ofNat 0), []), some (2, 812, 0, 2, (Int.ofNat 0), []), some (2, 813, 3, 0, (Int.ofNat 0), []), some (0, 814, 0, 0, (Int.ofNat 3), []), some (7, 815, 0, 0, (Int.ofNat 0), []), some (22, 816, 0, 0, (Int.ofNat 0), [])]
noncomputable def zh_L_50 : List zIx := []
noncomputable def zt_L_51 : List (Option zX) := [some (29, 819, 146, 4, (Int.ofNat 11), [((Int.ofNat 0), 5)]), none, none, some (15, 820, 0, 0, (Int.ofNat 0), []), some (2, 821, 2, 2, (Int.ofNat 0), []), some (2, 822, 0, 2, (Int.ofNat 0), []), some (2, 823, 3, 0, (Int.ofNat 0), []), some (0, 824, 0, 0, (Int.ofNat 1), []), some (7, 825, 0, 0, (Int.ofNat 0), []), some (22, 826, 0, 0, (Int.ofNat 0), []), some (2, 827, 0, 2, (Int.ofNat 0), []), some (2, 828, 3, 0, (Int.ofNat 0), []), some (0, 829, 0, 0, (Int.ofNat 2), []), some (7, 830, 0, 0, (Int.ofNat 0), []), some (22, 831, 0, 0, (Int.ofNat 0), []), some (2, 832, 0, 2, (Int.ofNat 0), [])]
noncomputable def zh_L_51 : List zIx := [(5, 10)]
noncomputable def zt_L_52 : List (Option zX) := [some (2, 833, 3, 0, (Int.ofNat 0), []), some (0, 834, 0, 0, (Int.ofNat 3), []), some (7, 835, 0, 0, (Int.ofNat 0), []), some (22, 836, 0, 0, (Int.ofNat 0), []), some (29, 839, 202, 4, (Int.ofNat 12), [((Int.ofNat 0), 5)]), none, none, some (15, 840, 0, 0, (Int.ofNat 0), []), some (1, 1750, 0, 0, (Int.ofNat 0), []), none, none, some (2, 844, 1, 2, (Int.ofNat 0), []), some (2, 845, 0, 2, (Int.ofNat 0), []), some (2, 846, 3, 0, (Int.ofNat 0), []), some (0, 847, 0, 0, (Int.ofNat 1), []), some (7, 848, 0, 0, (Int.ofNat 0), [])]
noncomputable def zh_L_52 : List zIx := [(0, 0), (0, 0), (0, 0), (0, 0), (8, 166)]
noncomputable def zt_L_53 : List (Option zX) := [some (22, 849, 0, 0, (Int.ofNat 0), []), some (2, 850, 0, 2, (Int.ofNat 0), []), some (2, 851, 3, 0, (Int.ofNat 0), []), some (0, 852, 0, 0, (Int.ofNat 2), []), some (7, 853, 0, 0, (Int.ofNat 0), []), some (22, 854, 0, 0, (Int.ofNat 0), []), some (2, 855, 0, 2, (Int.ofNat 0), []), some (2, 856, 3, 0, (Int.ofNat 0), []), some (0, 857, 0, 0, (Int.ofNat 3), []), some (7, 858, 0, 0, (Int.ofNat 0), []), some (22, 859, 0, 0, (Int.ofNat 0), []), some (29, 862, 168, 4, (Int.ofNat 11), [((Int.ofNat 0), 4)]), none, none, some (15, 863, 0, 0, (Int.ofNat 0), []), some (2, 864, 2, 2, (Int.ofNat 0), [])]
noncomputable def zh_L_53 : List zIx := [(0, 0), (0, 0), (0, 0), (0, 0), (0, 0), (0, 0), (0, 0), (0, 0), (0, 0), (0, 0), (0, 0), (5, 18)]
noncomputable def zt_L_54 : List (Option zX) := [some (2, 865, 0, 2, (Int.ofNat 0), []), some (2, 866, 3, 0, (Int.ofNat 0), []), some (0, 867, 0, 0, (Int.ofNat 1), []), some (7, 868, 0, 0, (Int.ofNat 0), []), some (22, 869, 0, 0, (Int.ofNat 0), []), some (2, 870, 0, 2, (Int.ofNat 0), []), some (2, 871, 3, 0, (Int.ofNat 0), []), some (0, 872, 0, 0, (Int.ofNat 2), []), some (7, 873, 0, 0, (Int.ofNat 0), []), some (22, 874, 0, 0, (Int.ofNat 0), []), some (2, 875, 0, 2, (Int.ofNat 0), []), some (2, 876, 3, 0, (Int.ofNat 0), []), some (0, 877, 0, 0, (Int.ofNat 3), []), some (7, 878, 0, 0, (Int.ofNat 0), []), some (22, 879, 0, 0, (Int.ofNat 0), []), some (29, 882, 279, 4, (Int.ofNat 12), [((Int.ofNat 0), 4)])]
noncomputable def zh_L_54 : List zIx := [(0, 0), (0, 0), (0, 0), (0, 0), (0, 0), (0, 0), (0, 0), (0, 0), (0, 0), (0, 0), (0, 0), (0, 0), (0, 0), (0, 0), (0, 0), (8, 174)]
noncomputable def zt_L_55 : List (Option zX) := [none, none, some (15, 883, 0, 0, (Int.ofNat 0), []), some (1, 1750, 0, 0, (Int.ofNat 0), []), none, none, some (2, 887, 1, 2, (Int.ofNat 0), []), some (2, 888, 0, 2, (Int.ofNat 0), []), some (2, 889, 3, 0, (Int.ofNat 0), []), some (0, 890, 0, 0, (Int.ofNat 1), []), some (7, 891, 0, 0, (Int.ofNat 0), []), some (22, 892, 0, 0, (Int.ofNat 0), []), some (2, 893, 0, 2, (Int.ofNat 0), []), some (2, 894, 3, 0, (Int.ofNat 0), []), some (0, 895, 0, 0, (Int.ofNat 2), []), some (7, 896, 0, 0, (Int.ofNat 0), [])]
noncomputable def zh_L_55 : List zIx := []
noncomputable def zt_L_56 : List (Option zX) := [some (22, 897, 0, 0, (Int.ofNat 0), []), some (2, 898, 0, 2, (Int.ofNat 0), []), some (2, 899, 3, 0, (Int.ofNat 0), []), some (0, 900, 0, 0, (Int.ofNat 3), []), some (7, 901, 0, 0, (Int.ofNat 0), []), some (22, 902, 0, 0, (Int.ofNat 0), []), some (29, 905, 160, 4, (Int.ofNat 11), [((Int.ofNat 0), 4)]), none, none, some (15, 906, 0, 0, (Int.ofNat 0), []), some (2, 907, 2, 2, (Int.ofNat 0), []), some (2, 908, 0, 2, (Int.ofNat 0), []), some (2, 909, 3, 0, (Int.ofNat 0), []), some (0, 910, 0, 0, (Int.ofNat 1), []), some (7, 911, 0, 0, (Int.ofNat 0), []), some (22, 912, 0, 0, (Int.ofNat 0), [])]
noncomputable def zh_L_56 : List zIx := [(0, 0), (0, 0), (0, 0), (0, 0), (0, 0), (0, 0), (5, 26)]
noncomputable def zt_L_57 : List (Option zX) := [some (2, 913, 0, 2, (Int.ofNat 0), []), some (2, 914, 3, 0, (Int.ofNat 0), []), some (0, 915, 0, 0, (Int.ofNat 2), []), some (7, 916, 0, 0, (Int.ofNat 0), []), some (22, 917, 0, 0, (Int.ofNat 0), []), some (2, 918, 0, 2, (Int.ofNat 0), []), some (2, 919, 3, 0, (Int.ofNat 0), []), some (0, 920, 0, 0, (Int.ofNat 3), []), some (7, 921, 0, 0, (Int.ofNat 0), []), some (22, 922, 0, 0, (Int.ofNat 0), []), some (29, 925, 239, 4, (Int.ofNat 12), [((Int.ofNat 0), 4)]), none, none, some (15, 926, 0, 0, (Int.ofNat 0), []), some (1, 1750, 0, 0, (Int.ofNat 0), [])]
noncomputable def zh_L_57 : List zIx := [(0, 0), (0, 0), (0, 0), (0, 0), (0, 0), (0, 0), (0, 0), (0, 0), (0, 0), (0, 0), (8, 182)]
noncomputable def zt_L_58 : List (Option zX) := [none, some (2, 930, 1, 2, (Int.ofNat 0), []), some (2, 931, 0, 2, (Int.ofNat 0), []), some (2, 932, 3, 0, (Int.ofNat 0), []), some (0, 933, 0, 0, (Int.ofNat 1), []), some (7, 934, 0, 0, (Int.ofNat 0), []), some (22, 935, 0, 0, (Int.ofNat 0), []), some (2, 936, 0, 2, (Int.ofNat 0), []), some (2, 937, 3, 0, (Int.ofNat 0), []), some (0, 938, 0, 0, (Int.ofNat 2), []), some (7, 939, 0, 0, (Int.ofNat 0), []), some (22, 940, 0, 0, (Int.ofNat 0), []), some (2, 941, 0, 2, (Int.ofNat 0), []), some (2, 942, 3, 0, (Int.ofNat 0), []), some (0, 943, 0, 0, (Int.ofNat 3), []), some (7, 944, 0, 0, (Int.ofNat 0), [])]
noncomputable def zh_L_58 : List zIx := []
noncomputable def zt_L_59 : List (Option zX) := [some (22, 945, 0, 0, (Int.ofNat 0), []), some (29, 948, 149, 4, (Int.ofNat 11), [((Int.ofNat 0), 4)]), none, none, some (15, 949, 0, 0, (Int.ofNat 0), []), some (2, 950, 2, 2, (Int.ofNat 0), []), some (2, 951, 0, 2, (Int.ofNat 0), []), some (2, 952, 3, 0, (Int.ofNat 0), []), some (0, 953, 0, 0, (Int.ofNat 1), []), some (7, 954, 0, 0, (Int.ofNat 0), []), some (22, 955, 0, 0, (Int.ofNat 0), []), some (2, 956, 0, 2, (Int.ofNat 0), []), some (2, 957, 3, 0, (Int.ofNat 0), []), some (0, 958, 0, 0, (Int.ofNat 2), []), some (7, 959, 0, 0, (Int.ofNat 0), []), some (22, 960, 0, 0, (Int.ofNat 0), [])]
noncomputable def zh_L_59 : List zIx := [(0, 0), (5, 34)]
noncomputable def zt_L_60 : List (Option zX) := [some (2, 961, 0, 2, (Int.ofNat 0), []), some (2, 962, 3, 0, (Int.ofNat 0), []), some (0, 963, 0, 0, (Int.ofNat 3), []), some (7, 964, 0, 0, (Int.ofNat 0), []), some (22, 965, 0, 0, (Int.ofNat 0), []), some (29, 968, 208, 4, (Int.ofNat 12), [((Int.ofNat 0), 4)]), none, none, some (15, 969, 0, 0, (Int.ofNat 0), []), some (1, 1750, 0, 0, (Int.ofNat 0), []), none, none, some (2, 973, 1, 2, (Int.ofNat 0), []), some (2, 974, 0, 2, (Int.ofNat 0), []), some (2, 975, 3, 0, (Int.ofNat 0), []), some (0, 976, 0, 0, (Int.ofNat 1), [])]
noncomputable def zh_L_60 : List zIx := [(0, 0), (0, 0), (0, 0), (0, 0), (0, 0), (8, 190)]
noncomputable def zt_L_61 : List (Option zX) := [some (7, 977, 0, 0, (Int.ofNat 0), []), some (22, 978, 0, 0, (Int.ofNat 0), []), some (2, 979, 0, 2, (Int.ofNat 0), []), some (2, 980, 3, 0, (Int.ofNat 0), []), some (0, 981, 0, 0, (Int.ofNat 2), []), some (7, 982, 0, 0, (Int.ofNat 0), []), some (22, 983, 0, 0, (Int.ofNat 0), []), some (29, 986, 182, 3, (Int.ofNat 11), [((Int.ofNat 0), 4)]), none, none, some (15, 987, 0, 0, (Int.ofNat 0), []), some (2, 988, 2, 2, (Int.ofNat 0), []), some (2, 989, 0, 2, (Int.ofNat 0), []), some (2, 990, 3, 0, (Int.ofNat 0), []), some (0, 991, 0, 0, (Int.ofNat 1), []), some (7, 992, 0, 0, (Int.ofNat 0), [])]
noncomputable def zh_L_61 : List zIx := [(0, 0), (0, 0), (0, 0), (0, 0), (0, 0), (0, 0), (0, 0), (5, 42)]
noncomputable def zt_L_62 : List (Option zX) := [some (22, 993, 0, 0, (Int.ofNat 0), []), some (2, 994, 0, 2, (Int.ofNat 0), []), some (2, 995, 3, 0, (Int.ofNat 0), []), some (0, 996, 0, 0, (Int.ofNat 2), []), some (7, 997, 0, 0, (Int.ofNat 0), []), some (22, 998, 0, 0, (Int.ofNat 0), []), some (29, 1001, 316, 3, (Int.ofNat 12), [((Int.ofNat 0), 3)]), none, none, some (15, 1002, 0, 0, (Int.ofNat 0), []), some (1, 1750, 0, 0, (Int.ofNat 0), []), none, none, some (2, 1006, 1, 2, (Int.ofNat 0), []), some (2, 1007, 0, 2, (Int.ofNat 0), []), some (2, 1008, 3, 0, (Int.ofNat 0), [])]
noncomputable def zh_L_62 : List zIx := [(0, 0), (0, 0), (0, 0), (0, 0), (0, 0), (0, 0), (8, 194)]
noncomputable def zt_L_63 : List (Option zX) := [some (0, 1009, 0, 0, (Int.ofNat 1), []), some (7, 1010, 0, 0, (Int.ofNat 0), []), some (22, 1011, 0, 0, (Int.ofNat 0), []), some (2, 1012, 0, 2, (Int.ofNat 0), []), some (2, 1013, 3, 0, (Int.ofNat 0), []), some (0, 1014, 0, 0, (Int.ofNat 2), []), some (7, 1015, 0, 0, (Int.ofNat 0), []), some (22, 1016, 0, 0, (Int.ofNat 0), []), some (29, 1019, 190, 3, (Int.ofNat 11), [((Int.ofNat 0), 3)]), none, none, some (15, 1020, 0, 0, (Int.ofNat 0), []), some (2, 1021, 2, 2, (Int.ofNat 0), []), some (2, 1022, 0, 2, (Int.ofNat 0), []), some (2, 1023, 3, 0, (Int.ofNat 0), []), some (0, 1024, 0, 0, (Int.ofNat 1), [])]
noncomputable def zh_L_63 : List zIx := [(0, 0), (0, 0), (0, 0), (0, 0), (0, 0), (0, 0), (0, 0), (0, 0), (5, 56)]
noncomputable def zt_L_64 : List (Option zX) := [some (7, 1025, 0, 0, (Int.ofNat 0), []), some (22, 1026, 0, 0, (Int.ofNat 0), []), some (2, 1027, 0, 2, (Int.ofNat 0), []), some (2, 1028, 3, 0, (Int.ofNat 0), []), some (0, 1029, 0, 0, (Int.ofNat 2), []), some (7, 1030, 0, 0, (Int.ofNat 0), []), some (22, 1031, 0, 0, (Int.ofNat 0), []), some (29, 1034, 332, 3, (Int.ofNat 12), [((Int.ofNat 0), 3)]), none, none, some (15, 1035, 0, 0, (Int.ofNat 0), []), some (1, 1750, 0, 0, (Int.ofNat 0), []), none, none, some (2, 1039, 1, 2, (Int.ofNat 0), []), some (2, 1040, 0, 2, (Int.ofNat 0), [])]
noncomputable def zh_L_64 : List zIx := [(0, 0), (0, 0), (0, 0), (0, 0), (0, 0), (0, 0), (0, 0), (8, 206)]
noncomputable def zt_L_65 : List (Option zX) := [some (2, 1041, 3, 0, (Int.ofNat 0), []), some (0, 1042, 0, 0, (Int.ofNat 1), []), some (7, 1043, 0, 0, (Int.ofNat 0), []), some (22, 1044, 0, 0, (Int.ofNat 0), []), some (2, 1045, 0, 2, (Int.ofNat 0), []), some (2, 1046, 3, 0, (Int.ofNat 0), []), some (0, 1047, 0, 0, (Int.ofNat 2), []), some (7, 1048, 0, 0, (Int.ofNat 0), []), some (22, 1049, 0, 0, (Int.ofNat 0), []), some (29, 1052, 152, 3, (Int.ofNat 11), [((Int.ofNat 0), 3)]), none, none, some (15, 1053, 0, 0, (Int.ofNat 0), []), some (2, 1054, 2, 2, (Int.ofNat 0), []), some (2, 1055, 0, 2, (Int.ofNat 0), []), some (2, 1056, 3, 0, (Int.ofNat 0), [])]
noncomputable def zh_L_65 : List zIx := [(0, 0), (0, 0), (0, 0), (0, 0), (0, 0), (0, 0), (0, 0), (0, 0), (0, 0), (5, 60)]
noncomputable def zt_L_66 : List (Option zX) := [some (0, 1057, 0, 0, (Int.ofNat 1), []), some (7, 1058, 0, 0, (Int.ofNat 0), []), some (22, 1059, 0, 0, (Int.ofNat 0), []), some (2, 1060, 0, 2, (Int.ofNat 0), []), some (2, 1061, 3, 0, (Int.ofNat 0), []), some (0, 1062, 0, 0, (Int.ofNat 2), []), some (7, 1063, 0, 0, (Int.ofNat 0), []), some (22, 1064, 0, 0, (Int.ofNat 0), []), some (29, 1067, 213, 3, (Int.ofNat 12), [((Int.ofNat 0), 3)]), none, none, some (15, 1068, 0, 0, (Int.ofNat 0), []), some (1, 1750, 0, 0, (Int.ofNat 0), []), none, none, some (2, 1072, 1, 2, (Int.ofNat 0), [])]
noncomputable def zh_L_66 : List zIx := [(0, 0), (0, 0), (0, 0), (0, 0), (0, 0), (0, 0), (0, 0), (0, 0), (8, 210)]
noncomputable def zt_L_67 : List (Option zX) := [some (2, 1073, 0, 2, (Int.ofNat 0), []), some (2, 1074, 3, 0, (Int.ofNat 0), []), some (0, 1075, 0, 0, (Int.ofNat 1), []), some (7, 1076, 0, 0, (Int.ofNat 0), []), some (22, 1077, 0, 0, (Int.ofNat 0), []), some (29, 1080, 159, 2, (Int.ofNat 11), [((Int.ofNat 0), 2)]), none, none, some (15, 1081, 0, 0, (Int.ofNat 0), []), some (2, 1082, 2, 2, (Int.ofNat 0), []), some (2, 1083, 0, 2, (Int.ofNat 0), []), some (2, 1084, 3, 0, (Int.ofNat 0), []), some (0, 1085, 0, 0, (Int.ofNat 1), []), some (7, 1086, 0, 0, (Int.ofNat 0), []), some (22, 1087, 0, 0, (Int.ofNat 0), []), some (29, 1090, 238, 2, (Int.ofNat 12), [((Int.ofNat 0), 4)])]
noncomputable def zh_L_67 : List zIx := [(0, 0), (0, 0), (0, 0), (0, 0), (0, 0), (5, 74), (0, 0), (0, 0), (0, 0), (0, 0), (0, 0), (0, 0), (0, 0), (0, 0), (0, 0), (8, 219)]
noncomputable def zt_L_68 : List (Option zX) := [none, none, some (15, 1091, 0, 0, (Int.ofNat 0), []), some (1, 1750, 0, 0, (Int.ofNat 0), []), none, none, some (2, 1095, 1, 2, (Int.ofNat 0), []), some (2, 1096, 0, 2, (Int.ofNat 0), []), some (2, 1097, 3, 0, (Int.ofNat 0), []), some (0, 1098, 0, 0, (Int.ofNat 1), []), some (7, 1099, 0, 0, (Int.ofNat 0), []), some (22, 1100, 0, 0, (Int.ofNat 0), []), some (29, 1103, 191, 2, (Int.ofNat 11), [((Int.ofNat 0), 3)]), none, none, some (15, 1104, 0, 0, (Int.ofNat 0), [])]
noncomputable def zh_L_68 : List zIx := [(0, 0), (0, 0), (0, 0), (0, 0), (0, 0), (0, 0), (0, 0), (0, 0), (0, 0), (0, 0), (0, 0), (0, 0), (5, 90)]
noncomputable def zt_L_69 : List (Option zX) := [some (2, 1105, 2, 2, (Int.ofNat 0), []), some (2, 1106, 0, 2, (Int.ofNat 0), []), some (2, 1107, 3, 0, (Int.ofNat 0), []), some (0, 1108, 0, 0, (Int.ofNat 1), []), some (7, 1109, 0, 0, (Int.ofNat 0), []), some (22, 1110, 0, 0, (Int.ofNat 0), []), some (29, 1113, 334, 2, (Int.ofNat 12), [((Int.ofNat 0), 4)]), none, none, some (15, 1114, 0, 0, (Int.ofNat 0), []), some (1, 1750, 0, 0, (Int.ofNat 0), []), none, none, some (2, 1118, 1, 2, (Int.ofNat 0), []), some (2, 1119, 0, 2, (Int.ofNat 0), []), some (2, 1120, 3, 0, (Int.ofNat 0), [])]
noncomputable def zh_L_69 : List zIx := [(0, 0), (0, 0), (0, 0), (0, 0), (0, 0), (0, 0), (8, 232)]
noncomputable def zt_L_70 : List (Option zX) := [some (0, 1121, 0, 0, (Int.ofNat 1), []), some (7, 1122, 0, 0, (Int.ofNat 0), []), some (22, 1123, 0, 0, (Int.ofNat 0), []), some (2, 1124, 0, 2, (Int.ofNat 0), []), some (2, 1125, 3, 0, (Int.ofNat 0), []), some (0, 1126, 0, 0, (Int.ofNat 2), []), some (7, 1127, 0, 0, (Int.ofNat 0), []), some (22, 1128, 0, 0, (Int.ofNat 0), []), some (29, 1131, 192, 3, (Int.ofNat 11), [((Int.ofNat 0), 3)]), none, none, some (15, 1132, 0, 0, (Int.ofNat 0), []), some (2, 1133, 2, 2, (Int.ofNat 0), []), some (2, 1134, 0, 2, (Int.ofNat 0), []), some (2, 1135, 3, 0, (Int.ofNat 0), []), some (0, 1136, 0, 0, (Int.ofNat 1), [])]
noncomputable def zh_L_70 : List zIx := [(0, 0), (0, 0), (0, 0), (0, 0), (0, 0), (0, 0), (0, 0), (0, 0), (5, 131)]
noncomputable def zt_L_71 : List (Option zX) := [some (7, 1137, 0, 0, (Int.ofNat 0), []), some (22, 1138, 0, 0, (Int.ofNat 0), []), some (2, 1139, 0, 2, (Int.ofNat 0), []), some (2, 1140, 3, 0, (Int.ofNat 0), []), some (0, 1141, 0, 0, (Int.ofNat 2), []), some (7, 1142, 0, 0, (Int.ofNat 0), []), some (22, 1143, 0, 0, (Int.ofNat 0), []), some (29, 1146, 335, 3, (Int.ofNat 12), [((Int.ofNat 0), 3)]), none, none, some (15, 1147, 0, 0, (Int.ofNat 0), []), some (1, 1750, 0, 0, (Int.ofNat 0), []), none, none, some (2, 1151, 1, 2, (Int.ofNat 0), []), some (2, 1152, 0, 2, (Int.ofNat 0), [])]
noncomputable def zh_L_71 : List zIx := [(0, 0), (0, 0), (0, 0), (0, 0), (0, 0), (0, 0), (0, 0), (9, 17)]
noncomputable def zt_L_72 : List (Option zX) := [some (2, 1153, 3, 0, (Int.ofNat 0), []), some (0, 1154, 0, 0, (Int.ofNat 1), []), some (7, 1155, 0, 0, (Int.ofNat 0), []), some (22, 1156, 0, 0, (Int.ofNat 0), []), some (29, 1159, 164, 2, (Int.ofNat 11), [((Int.ofNat 0), 3)]), none, none, some (15, 1160, 0, 0, (Int.ofNat 0), []), some (2, 1161, 2, 2, (Int.ofNat 0), []), some (2, 1162, 0, 2, (Int.ofNat 0), []), some (2, 1163, 3, 0, (Int.ofNat 0), []), some (0, 1164, 0, 0, (Int.ofNat 1), []), some (7, 1165, 0, 0, (Int.ofNat 0), []), some (22, 1166, 0, 0, (Int.ofNat 0), []), some (29, 1169, 274, 2, (Int.ofNat 12), [((Int.ofNat 0), 3)])]
noncomputable def zh_L_72 : List zIx := [(0, 0), (0, 0), (0, 0), (0, 0), (5, 135), (0, 0), (0, 0), (0, 0), (0, 0), (0, 0), (0, 0), (0, 0), (0, 0), (0, 0), (9, 21)]
noncomputable def zt_L_73 : List (Option zX) := [none, some (15, 1170, 0, 0, (Int.ofNat 0), []), some (1, 1750, 0, 0, (Int.ofNat 0), []), none, none, some (2, 1174, 1, 2, (Int.ofNat 0), []), some (29, 1177, 183, 1, (Int.ofNat 11), [((Int.ofNat 0), 1)]), none, none, some (15, 1178, 0, 0, (Int.ofNat 0), []), some (2, 1179, 2, 2, (Int.ofNat 0), []), some (29, 1182, 319, 1, (Int.ofNat 12), [((Int.ofNat 0), 1)]), none, none, some (15, 1183, 0, 0, (Int.ofNat 0), []), some (1, 1750, 0, 0, (Int.ofNat 0), [])]
noncomputable def zh_L_73 : List zIx := [(0, 0), (0, 0), (0, 0), (0, 0), (0, 0), (0, 0), (5, 145), (0, 0), (0, 0), (0, 0), (0, 0), (9, 29)]
noncomputable def zt_L_74 : List (Option zX) := [none, none, some (2, 1187, 1, 2, (Int.ofNat 0), []), some (2, 1188, 0, 2, (Int.ofNat 0), []), some (2, 1189, 3, 0, (Int.ofNat 0), []), some (0, 1190, 0, 0, (Int.ofNat 1), []), some (7, 1191, 0, 0, (Int.ofNat 0), []), some (22, 1192, 0, 0, (Int.ofNat 0), []), some (29, 1195, 189, 2, (Int.ofNat 11), [((Int.ofNat 0), 3)]), none, none, some (15, 1196, 0, 0, (Int.ofNat 0), []), some (2, 1197, 2, 2, (Int.ofNat 0), []), some (2, 1198, 0, 2, (Int.ofNat 0), []), some (2, 1199, 3, 0, (Int.ofNat 0), []), some (0, 1200, 0, 0, (Int.ofNat 1), [])]
noncomputable def zh_L_74 : List zIx := [(0, 0), (0, 0), (0, 0), (0, 0), (0, 0), (0, 0), (0, 0), (0, 0), (5, 149)]
noncomputable def zt_L_75 : List (Option zX) := [some (7, 1201, 0, 0, (Int.ofNat 0), []), some (22, 1202, 0, 0, (Int.ofNat 0), []), some (29, 1205, 331, 2, (Int.ofNat 12), [((Int.ofNat 0), 4)]), none, none, some (15, 1206, 0, 0, (Int.ofNat 0), []), some (1, 1750, 0, 0, (Int.ofNat 0), []), none, none, some (2, 1210, 1, 2, (Int.ofNat 0), []), some (2, 1211, 0, 2, (Int.ofNat 0), []), some (2, 1212, 3, 0, (Int.ofNat 0), []), some (0, 1213, 0, 0, (Int.ofNat 1), []), some (7, 1214, 0, 0, (Int.ofNat 0), []), some (22, 1215, 0, 0, (Int.ofNat 0), []), some (29, 1218, 145, 2, (Int.ofNat 11), [((Int.ofNat 0), 3)])]
noncomputable def zh_L_75 : List zIx := [(0, 0), (0, 0), (9, 33), (0, 0), (0, 0), (0, 0), (0, 0), (0, 0), (0, 0), (0, 0), (0, 0), (0, 0), (0, 0), (0, 0), (0, 0), (5, 157)]
noncomputable def zt_L_76 : List (Option zX) := [none, none, some (2, 1219, 2, 2, (Int.ofNat 0), []), some (2, 1220, 0, 2, (Int.ofNat 0), []), some (2, 1221, 3, 0, (Int.ofNat 0), []), some (0, 1222, 0, 0, (Int.ofNat 1), []), some (7, 1223, 0, 0, (Int.ofNat 0), []), some (22, 1224, 0, 0, (Int.ofNat 0), []), some (29, 1227, 201, 2, (Int.ofNat 12), [((Int.ofNat 0), 3)]), none, none, some (17, 1230, 1750, 2, (Int.ofNat 0), []), none, none, some (0, 1231, 0, 0, (Int.ofNat 0), []), some (30, 0, 3, 1, (Int.ofNat 0), [])]
noncomputable def zh_L_76 : List zIx := [(0, 0), (0, 0), (0, 0), (0, 0), (0, 0), (0, 0), (0, 0), (0, 0), (9, 37)]
noncomputable def zt_L_77 : List (Option zX) := [some (2, 1233, 1, 2, (Int.ofNat 0), []), some (2, 1234, 0, 2, (Int.ofNat 0), []), some (2, 1235, 3, 0, (Int.ofNat 0), []), some (0, 1236, 0, 0, (Int.ofNat 1), []), some (7, 1237, 0, 0, (Int.ofNat 0), []), some (22, 1238, 0, 0, (Int.ofNat 0), []), some (2, 1239, 0, 2, (Int.ofNat 0), []), some (2, 1240, 3, 0, (Int.ofNat 0), []), some (0, 1241, 0, 0, (Int.ofNat 2), []), some (7, 1242, 0, 0, (Int.ofNat 0), []), some (22, 1243, 0, 0, (Int.ofNat 0), []), some (29, 1246, 158, 3, (Int.ofNat 11), [((Int.ofNat 0), 3)]), none, none, some (15, 1247, 0, 0, (Int.ofNat 0), []), some (2, 1248, 2, 2, (Int.ofNat 0), [])]
noncomputable def zh_L_77 : List zIx := [(0, 0), (0, 0), (0, 0), (0, 0), (0, 0), (0, 0), (0, 0), (0, 0), (0, 0), (0, 0), (0, 0), (5, 166)]
noncomputable def zt_L_78 : List (Option zX) := [some (2, 1249, 0, 2, (Int.ofNat 0), []), some (2, 1250, 3, 0, (Int.ofNat 0), []), some (0, 1251, 0, 0, (Int.ofNat 1), []), some (7, 1252, 0, 0, (Int.ofNat 0), []), some (22, 1253, 0, 0, (Int.ofNat 0), []), some (2, 1254, 0, 2, (Int.ofNat 0), []), some (2, 1255, 3, 0, (Int.ofNat 0), []), some (0, 1256, 0, 0, (Int.ofNat 2), []), some (7, 1257, 0, 0, (Int.ofNat 0), []), some (22, 1258, 0, 0, (Int.ofNat 0), []), some (29, 1261, 236, 3, (Int.ofNat 12), [((Int.ofNat 0), 3)]), none, none, some (15, 1262, 0, 0, (Int.ofNat 0), []), some (1, 1750, 0, 0, (Int.ofNat 0), [])]
noncomputable def zh_L_78 : List zIx := [(0, 0), (0, 0), (0, 0), (0, 0), (0, 0), (0, 0), (0, 0), (0, 0), (0, 0), (0, 0), (9, 41)]
noncomputable def zt_L_79 : List (Option zX) := [none, some (2, 1266, 1, 2, (Int.ofNat 0), []), some (29, 1269, 174, 1, (Int.ofNat 11), [((Int.ofNat 0), 3)]), none, none, some (15, 1270, 0, 0, (Int.ofNat 0), []), some (2, 1271, 2, 2, (Int.ofNat 0), []), some (29, 1274, 293, 1, (Int.ofNat 12), [((Int.ofNat 0), 3)]), none, none, some (15, 1275, 0, 0, (Int.ofNat 0), []), some (1, 1750, 0, 0, (Int.ofNat 0), []), none, none, some (2, 1279, 1, 2, (Int.ofNat 0), []), some (2, 1280, 0, 2, (Int.ofNat 0), [])]
noncomputable def zh_L_79 : List zIx := [(0, 0), (0, 0), (5, 170), (0, 0), (0, 0), (0, 0), (0, 0), (9, 45)]
noncomputable def zt_L_80 : List (Option zX) := [some (2, 1281, 3, 0, (Int.ofNat 0), []), some (0, 1282, 0, 0, (Int.ofNat 1), []), some (7, 1283, 0, 0, (Int.ofNat 0), []), some (22, 1284, 0, 0, (Int.ofNat 0), []), some (2, 1285, 0, 2, (Int.ofNat 0), []), some (2, 1286, 3, 0, (Int.ofNat 0), []), some (0, 1287, 0, 0, (Int.ofNat 2), []), some (7, 1288, 0, 0, (Int.ofNat 0), []), some (22, 1289, 0, 0, (Int.ofNat 0), []), some (29, 1292, 179, 3, (Int.ofNat 11), [((Int.ofNat 0), 5)]), none, none, some (15, 1293, 0, 0, (Int.ofNat 0), []), some (2, 1294, 2, 2, (Int.ofNat 0), []), some (2, 1295, 0, 2, (Int.ofNat 0), []), some (2, 1296, 3, 0, (Int.ofNat 0), [])]
noncomputable def zh_L_80 : List zIx := [(0, 0), (0, 0), (0, 0), (0, 0), (0, 0), (0, 0), (0, 0), (0, 0), (0, 0), (5, 174)]
noncomputable def zt_L_81 : List (Option zX) := [some (0, 1297, 0, 0, (Int.ofNat 1), []), some (7, 1298, 0, 0, (Int.ofNat 0), []), some (22, 1299, 0, 0, (Int.ofNat 0), []), some (2, 1300, 0, 2, (Int.ofNat 0), []), some (2, 1301, 3, 0, (Int.ofNat 0), []), some (0, 1302, 0, 0, (Int.ofNat 2), []), some (7, 1303, 0, 0, (Int.ofNat 0), []), some (22, 1304, 0, 0, (Int.ofNat 0), []), some (29, 1307, 309, 3, (Int.ofNat 12), [((Int.ofNat 0), 5)]), none, none, some (15, 1308, 0, 0, (Int.ofNat 0), []), some (1, 1750, 0, 0, (Int.ofNat 0), []), none, none, some (2, 1312, 1, 2, (Int.ofNat 0), [])]
noncomputable def zh_L_81 : List zIx := [(0, 0), (0, 0), (0, 0), (0, 0), (0, 0), (0, 0), (0, 0), (0, 0), (9, 53)]
noncomputable def zt_L_82 : List (Option zX) := [some (2, 1313, 0, 2, (Int.ofNat 0), []), some (2, 1314, 3, 0, (Int.ofNat 0), []), some (0, 1315, 0, 0, (Int.ofNat 1), []), some (7, 1316, 0, 0, (Int.ofNat 0), []), some (22, 1317, 0, 0, (Int.ofNat 0), []), some (2, 1318, 0, 2, (Int.ofNat 0), []), some (2, 1319, 3, 0, (Int.ofNat 0), []), some (0, 1320, 0, 0, (Int.ofNat 2), []), some (7, 1321, 0, 0, (Int.ofNat 0), []), some (22, 1322, 0, 0, (Int.ofNat 0), []), some (2, 1323, 0, 2, (Int.ofNat 0), []), some (2, 1324, 3, 0, (Int.ofNat 0), []), some (0, 1325, 0, 0, (Int.ofNat 3), []), some (7, 1326, 0, 0, (Int.ofNat 0), []), some (22, 1327, 0, 0, (Int.ofNat 0), []), some (29, 1330, 184, 4, (Int.ofNat 11), [((Int.ofNat 0), 4)])]
noncomputable def zh_L_82 : List zIx := [(0, 0), (0, 0), (0, 0), (0, 0), (0, 0), (0, 0), (0, 0), (0, 0), (0, 0), (0, 0), (0, 0), (0, 0), (0, 0), (0, 0), (0, 0), (5, 178)]
noncomputable def zt_L_83 : List (Option zX) := [none, none, some (15, 1331, 0, 0, (Int.ofNat 0), []), some (2, 1332, 2, 2, (Int.ofNat 0), []), some (2, 1333, 0, 2, (Int.ofNat 0), []), some (2, 1334, 3, 0, (Int.ofNat 0), []), some (0, 1335, 0, 0, (Int.ofNat 1), []), some (7, 1336, 0, 0, (Int.ofNat 0), []), some (22, 1337, 0, 0, (Int.ofNat 0), []), some (2, 1338, 0, 2, (Int.ofNat 0), []), some (2, 1339, 3, 0, (Int.ofNat 0), []), some (0, 1340, 0, 0, (Int.ofNat 2), []), some (7, 1341, 0, 0, (Int.ofNat 0), []), some (22, 1342, 0, 0, (Int.ofNat 0), []), some (2, 1343, 0, 2, (Int.ofNat 0), []), some (2, 1344, 3, 0, (Int.ofNat 0), [])]
noncomputable def zh_L_83 : List zIx := []
noncomputable def zt_L_84 : List (Option zX) := [some (0, 1345, 0, 0, (Int.ofNat 3), []), some (7, 1346, 0, 0, (Int.ofNat 0), []), some (22, 1347, 0, 0, (Int.ofNat 0), []), some (29, 1350, 321, 4, (Int.ofNat 12), [((Int.ofNat 0), 8)]), none, none, some (15, 1351, 0, 0, (Int.ofNat 0), []), some (1, 1750, 0, 0, (Int.ofNat 0), []), none, none, some (2, 1355, 1, 2, (Int.ofNat 0), []), some (2, 1356, 0, 2, (Int.ofNat 0), []), some (2, 1357, 3, 0, (Int.ofNat 0), []), some (0, 1358, 0, 0, (Int.ofNat 1), []), some (7, 1359, 0, 0, (Int.ofNat 0), []), some (22, 1360, 0, 0, (Int.ofNat 0), [])]
noncomputable def zh_L_84 : List zIx := [(0, 0), (0, 0), (0, 0), (9, 57)]
noncomputable def zt_L_85 : List (Option zX) := [some (29, 1363, 153, 2, (Int.ofNat 11), [((Int.ofNat 0), 2)]), none, none, some (15, 1364, 0, 0, (Int.ofNat 0), []), some (2, 1365, 2, 2, (Int.ofNat 0), []), some (2, 1366, 0, 2, (Int.ofNat 0), []), some (2, 1367, 3, 0, (Int.ofNat 0), []), some (0, 1368, 0, 0, (Int.ofNat 1), []), some (7, 1369, 0, 0, (Int.ofNat 0), []), some (22, 1370, 0, 0, (Int.ofNat 0), []), some (29, 1373, 217, 2, (Int.ofNat 12), [((Int.ofNat 0), 3)]), none, none, some (15, 1374, 0, 0, (Int.ofNat 0), []), some (1, 1750, 0, 0, (Int.ofNat 0), [])]
noncomputable def zh_L_85 : List zIx := [(5, 219), (0, 0), (0, 0), (0, 0), (0, 0), (0, 0), (0, 0), (0, 0), (0, 0), (0, 0), (9, 78)]
noncomputable def zt_L_86 : List (Option zX) := [none, some (2, 1378, 1, 2, (Int.ofNat 0), []), some (2, 1379, 0, 2, (Int.ofNat 0), []), some (2, 1380, 3, 0, (Int.ofNat 0), []), some (0, 1381, 0, 0, (Int.ofNat 1), []), some (7, 1382, 0, 0, (Int.ofNat 0), []), some (22, 1383, 0, 0, (Int.ofNat 0), []), some (2, 1384, 0, 2, (Int.ofNat 0), []), some (2, 1385, 3, 0, (Int.ofNat 0), []), some (0, 1386, 0, 0, (Int.ofNat 2), []), some (7, 1387, 0, 0, (Int.ofNat 0), []), some (22, 1388, 0, 0, (Int.ofNat 0), []), some (2, 1389, 0, 2, (Int.ofNat 0), []), some (2, 1390, 3, 0, (Int.ofNat 0), []), some (0, 1391, 0, 0, (Int.ofNat 3), []), some (7, 1392, 0, 0, (Int.ofNat 0), [])]
noncomputable def zh_L_86 : List zIx := []
noncomputable def zt_L_87 : List (Option zX) := [some (22, 1393, 0, 0, (Int.ofNat 0), []), some (29, 1396, 194, 4, (Int.ofNat 11), [((Int.ofNat 0), 5)]), none, none, some (15, 1397, 0, 0, (Int.ofNat 0), []), some (2, 1398, 2, 2, (Int.ofNat 0), []), some (2, 1399, 0, 2, (Int.ofNat 0), []), some (2, 1400, 3, 0, (Int.ofNat 0), []), some (0, 1401, 0, 0, (Int.ofNat 1), []), some (7, 1402, 0, 0, (Int.ofNat 0), []), some (22, 1403, 0, 0, (Int.ofNat 0), []), some (2, 1404, 0, 2, (Int.ofNat 0), []), some (2, 1405, 3, 0, (Int.ofNat 0), []), some (0, 1406, 0, 0, (Int.ofNat 2), []), some (7, 1407, 0, 0, (Int.ofNat 0), []), some (22, 1408, 0, 0, (Int.ofNat 0), [])]
noncomputable def zh_L_87 : List zIx := [(0, 0), (6, 31)]
noncomputable def zt_L_88 : List (Option zX) := [some (2, 1409, 0, 2, (Int.ofNat 0), []), some (2, 1410, 3, 0, (Int.ofNat 0), []), some (0, 1411, 0, 0, (Int.ofNat 3), []), some (7, 1412, 0, 0, (Int.ofNat 0), []), some (22, 1413, 0, 0, (Int.ofNat 0), []), some (29, 1416, 337, 4, (Int.ofNat 12), [((Int.ofNat 0), 4)]), none, none, some (15, 1417, 0, 0, (Int.ofNat 0), []), some (1, 1750, 0, 0, (Int.ofNat 0), []), none, none, some (2, 1421, 1, 2, (Int.ofNat 0), []), some (2, 1422, 0, 2, (Int.ofNat 0), []), some (2, 1423, 3, 0, (Int.ofNat 0), []), some (0, 1424, 0, 0, (Int.ofNat 1), [])]
noncomputable def zh_L_88 : List zIx := [(0, 0), (0, 0), (0, 0), (0, 0), (0, 0), (9, 90)]
noncomputable def zt_L_89 : List (Option zX) := [some (7, 1425, 0, 0, (Int.ofNat 0), []), some (22, 1426, 0, 0, (Int.ofNat 0), []), some (2, 1427, 0, 2, (Int.ofNat 0), []), some (2, 1428, 3, 0, (Int.ofNat 0), []), some (0, 1429, 0, 0, (Int.ofNat 2), []), some (7, 1430, 0, 0, (Int.ofNat 0), []), some (22, 1431, 0, 0, (Int.ofNat 0), []), some (29, 1434, 167, 3, (Int.ofNat 11), [((Int.ofNat 0), 4)]), none, none, some (15, 1435, 0, 0, (Int.ofNat 0), []), some (2, 1436, 2, 2, (Int.ofNat 0), []), some (2, 1437, 0, 2, (Int.ofNat 0), []), some (2, 1438, 3, 0, (Int.ofNat 0), []), some (0, 1439, 0, 0, (Int.ofNat 1), []), some (7, 1440, 0, 0, (Int.ofNat 0), [])]
noncomputable def zh_L_89 : List zIx := [(0, 0), (0, 0), (0, 0), (0, 0), (0, 0), (0, 0), (0, 0), (6, 39)]
noncomputable def zt_L_90 : List (Option zX) := [some (22, 1441, 0, 0, (Int.ofNat 0), []), some (2, 1442, 0, 2, (Int.ofNat 0), []), some (2, 1443, 3, 0, (Int.ofNat 0), []), some (0, 1444, 0, 0, (Int.ofNat 2), []), some (7, 1445, 0, 0, (Int.ofNat 0), []), some (22, 1446, 0, 0, (Int.ofNat 0), []), some (29, 1449, 278, 3, (Int.ofNat 12), [((Int.ofNat 0), 6)]), none, none, some (15, 1450, 0, 0, (Int.ofNat 0), []), some (1, 1750, 0, 0, (Int.ofNat 0), []), none, none, some (2, 1454, 1, 2, (Int.ofNat 0), []), some (2, 1455, 0, 2, (Int.ofNat 0), []), some (2, 1456, 3, 0, (Int.ofNat 0), [])]
noncomputable def zh_L_90 : List zIx := [(0, 0), (0, 0), (0, 0), (0, 0), (0, 0), (0, 0), (9, 98)]
noncomputable def zt_L_91 : List (Option zX) := [some (0, 1457, 0, 0, (Int.ofNat 1), []), some (7, 1458, 0, 0, (Int.ofNat 0), []), some (22, 1459, 0, 0, (Int.ofNat 0), []), some (2, 1460, 0, 2, (Int.ofNat 0), []), some (2, 1461, 3, 0, (Int.ofNat 0), []), some (0, 1462, 0, 0, (Int.ofNat 2), []), some (7, 1463, 0, 0, (Int.ofNat 0), []), some (22, 1464, 0, 0, (Int.ofNat 0), []), some (29, 1467, 186, 3, (Int.ofNat 11), [((Int.ofNat 0), 7)]), none, none, some (15, 1468, 0, 1, (Int.ofNat 0), []), some (2, 1469, 2, 2, (Int.ofNat 0), []), some (2, 1470, 0, 2, (Int.ofNat 0), []), some (2, 1471, 3, 0, (Int.ofNat 0), []), some (0, 1472, 0, 0, (Int.ofNat 1), [])]
noncomputable def zh_L_91 : List zIx := [(0, 0), (0, 0), (0, 0), (0, 0), (0, 0), (0, 0), (0, 0), (0, 0), (6, 48)]
noncomputable def zt_L_92 : List (Option zX) := [some (7, 1473, 0, 0, (Int.ofNat 0), []), some (22, 1474, 0, 0, (Int.ofNat 0), []), some (2, 1475, 0, 2, (Int.ofNat 0), []), some (2, 1476, 3, 0, (Int.ofNat 0), []), some (0, 1477, 0, 0, (Int.ofNat 2), []), some (7, 1478, 0, 0, (Int.ofNat 0), []), some (22, 1479, 0, 0, (Int.ofNat 0), []), some (29, 1482, 327, 3, (Int.ofNat 12), [((Int.ofNat 0), 8)]), none, none, some (15, 1483, 0, 1, (Int.ofNat 0), []), some (1, 1750, 0, 0, (Int.ofNat 0), []), none, none, some (2, 1487, 1, 2, (Int.ofNat 0), []), some (2, 1488, 0, 2, (Int.ofNat 0), [])]
noncomputable def zh_L_92 : List zIx := [(0, 0), (0, 0), (0, 0), (0, 0), (0, 0), (0, 0), (0, 0), (9, 102)]
noncomputable def zt_L_93 : List (Option zX) := [some (2, 1489, 3, 0, (Int.ofNat 0), []), some (0, 1490, 0, 0, (Int.ofNat 1), []), some (7, 1491, 0, 0, (Int.ofNat 0), []), some (22, 1492, 0, 0, (Int.ofNat 0), []), some (2, 1493, 0, 2, (Int.ofNat 0), []), some (2, 1494, 3, 0, (Int.ofNat 0), []), some (0, 1495, 0, 0, (Int.ofNat 2), []), some (7, 1496, 0, 0, (Int.ofNat 0), []), some (22, 1497, 0, 0, (Int.ofNat 0), []), some (2, 1498, 0, 2, (Int.ofNat 0), []), some (2, 1499, 3, 0, (Int.ofNat 0), []), some (0, 1500, 0, 0, (Int.ofNat 3), []), some (7, 1501, 0, 0, (Int.ofNat 0), []), some (22, 1502, 0, 0, (Int.ofNat 0), []), some (29, 1505, 157, 4, (Int.ofNat 11), [((Int.ofNat 0), 8)])]
noncomputable def zh_L_93 : List zIx := [(0, 0), (0, 0), (0, 0), (0, 0), (0, 0), (0, 0), (0, 0), (0, 0), (0, 0), (0, 0), (0, 0), (0, 0), (0, 0), (0, 0), (6, 60)]
noncomputable def zt_L_94 : List (Option zX) := [none, some (15, 1506, 0, 0, (Int.ofNat 0), []), some (2, 1507, 2, 2, (Int.ofNat 0), []), some (2, 1508, 0, 2, (Int.ofNat 0), []), some (2, 1509, 3, 0, (Int.ofNat 0), []), some (0, 1510, 0, 0, (Int.ofNat 1), []), some (7, 1511, 0, 0, (Int.ofNat 0), []), some (22, 1512, 0, 0, (Int.ofNat 0), []), some (2, 1513, 0, 2, (Int.ofNat 0), []), some (2, 1514, 3, 0, (Int.ofNat 0), []), some (0, 1515, 0, 0, (Int.ofNat 2), []), some (7, 1516, 0, 0, (Int.ofNat 0), []), some (22, 1517, 0, 0, (Int.ofNat 0), []), some (2, 1518, 0, 2, (Int.ofNat 0), []), some (2, 1519, 3, 0, (Int.ofNat 0), []), some (0, 1520, 0, 0, (Int.ofNat 3), [])]
noncomputable def zh_L_94 : List zIx := []
noncomputable def zt_L_95 : List (Option zX) := [some (7, 1521, 0, 0, (Int.ofNat 0), []), some (22, 1522, 0, 0, (Int.ofNat 0), []), some (29, 1525, 235, 4, (Int.ofNat 12), [((Int.ofNat 0), 6)]), none, none, some (15, 1526, 0, 0, (Int.ofNat 0), []), some (1, 1750, 0, 0, (Int.ofNat 0), []), none, none, some (2, 1530, 1, 2, (Int.ofNat 0), []), some (2, 1531, 0, 2, (Int.ofNat 0), []), some (2, 1532, 3, 0, (Int.ofNat 0), []), some (0, 1533, 0, 0, (Int.ofNat 1), []), some (7, 1534, 0, 0, (Int.ofNat 0), []), some (22, 1535, 0, 0, (Int.ofNat 0), []), some (2, 1536, 0, 2, (Int.ofNat 0), [])]
noncomputable def zh_L_95 : List zIx := [(0, 0), (0, 0), (9, 124)]
noncomputable def zt_L_96 : List (Option zX) := [some (2, 1537, 3, 0, (Int.ofNat 0), []), some (0, 1538, 0, 0, (Int.ofNat 2), []), some (7, 1539, 0, 0, (Int.ofNat 0), []), some (22, 1540, 0, 0, (Int.ofNat 0), []), some (2, 1541, 0, 2, (Int.ofNat 0), []), some (2, 1542, 3, 0, (Int.ofNat 0), []), some (0, 1543, 0, 0, (Int.ofNat 3), []), some (7, 1544, 0, 0, (Int.ofNat 0), []), some (22, 1545, 0, 0, (Int.ofNat 0), []), some (2, 1546, 0, 2, (Int.ofNat 0), []), some (2, 1547, 3, 0, (Int.ofNat 0), []), some (0, 1548, 0, 0, (Int.ofNat 4), []), some (7, 1549, 0, 0, (Int.ofNat 0), []), some (22, 1550, 0, 0, (Int.ofNat 0), []), some (2, 1551, 0, 2, (Int.ofNat 0), []), some (2, 1552, 3, 0, (Int.ofNat 0), [])]
noncomputable def zh_L_96 : List zIx := []
noncomputable def zt_L_97 : List (Option zX) := [some (0, 1553, 0, 0, (Int.ofNat 5), []), some (7, 1554, 0, 0, (Int.ofNat 0), []), some (22, 1555, 0, 0, (Int.ofNat 0), []), some (29, 1558, 169, 6, (Int.ofNat 11), [((Int.ofNat 0), 8)]), none, none, some (15, 1559, 0, 0, (Int.ofNat 0), []), some (2, 1560, 2, 2, (Int.ofNat 0), []), some (2, 1561, 0, 2, (Int.ofNat 0), []), some (2, 1562, 3, 0, (Int.ofNat 0), []), some (0, 1563, 0, 0, (Int.ofNat 1), []), some (7, 1564, 0, 0, (Int.ofNat 0), []), some (22, 1565, 0, 0, (Int.ofNat 0), []), some (2, 1566, 0, 2, (Int.ofNat 0), []), some (2, 1567, 3, 0, (Int.ofNat 0), []), some (0, 1568, 0, 0, (Int.ofNat 2), [])]
noncomputable def zh_L_97 : List zIx := [(0, 0), (0, 0), (0, 0), (6, 78)]
noncomputable def zt_L_98 : List (Option zX) := [some (7, 1569, 0, 0, (Int.ofNat 0), []), some (22, 1570, 0, 0, (Int.ofNat 0), []), some (2, 1571, 0, 2, (Int.ofNat 0), []), some (2, 1572, 3, 0, (Int.ofNat 0), []), some (0, 1573, 0, 0, (Int.ofNat 3), []), some (7, 1574, 0, 0, (Int.ofNat 0), []), some (22, 1575, 0, 0, (Int.ofNat 0), []), some (2, 1576, 0, 2, (Int.ofNat 0), []), some (2, 1577, 3, 0, (Int.ofNat 0), []), some (0, 1578, 0, 0, (Int.ofNat 4), []), some (7, 1579, 0, 0, (Int.ofNat 0), []), some (22, 1580, 0, 0, (Int.ofNat 0), []), some (2, 1581, 0, 2, (Int.ofNat 0), []), some (2, 1582, 3, 0, (Int.ofNat 0), []), some (0, 1583, 0, 0, (Int.ofNat 5), []), some (7, 1584, 0, 0, (Int.ofNat 0), [])]
noncomputable def zh_L_98 : List zIx := []
noncomputable def zt_L_99 : List (Option zX) := [some (22, 1585, 0, 0, (Int.ofNat 0), []), some (29, 1588, 287, 6, (Int.ofNat 12), [((Int.ofNat 0), 6)]), none, none, some (15, 1589, 0, 0, (Int.ofNat 0), []), some (1, 1750, 0, 0, (Int.ofNat 0), []), none, none, some (2, 1593, 1, 2, (Int.ofNat 0), []), some (2, 1594, 0, 2, (Int.ofNat 0), []), some (2, 1595, 3, 0, (Int.ofNat 0), []), some (0, 1596, 0, 0, (Int.ofNat 1), []), some (7, 1597, 0, 0, (Int.ofNat 0), []), some (22, 1598, 0, 0, (Int.ofNat 0), []), some (2, 1599, 0, 2, (Int.ofNat 0), []), some (2, 1600, 3, 0, (Int.ofNat 0), [])]
noncomputable def zh_L_99 : List zIx := [(0, 0), (9, 135)]
noncomputable def zt_L_100 : List (Option zX) := [some (0, 1601, 0, 0, (Int.ofNat 2), []), some (7, 1602, 0, 0, (Int.ofNat 0), []), some (22, 1603, 0, 0, (Int.ofNat 0), []), some (2, 1604, 0, 2, (Int.ofNat 0), []), some (2, 1605, 3, 0, (Int.ofNat 0), []), some (0, 1606, 0, 0, (Int.ofNat 3), []), some (7, 1607, 0, 0, (Int.ofNat 0), []), some (22, 1608, 0, 0, (Int.ofNat 0), []), some (29, 1611, 166, 4, (Int.ofNat 11), [((Int.ofNat 0), 4)]), none, none, some (15, 1612, 0, 0, (Int.ofNat 0), []), some (2, 1613, 2, 2, (Int.ofNat 0), []), some (2, 1614, 0, 2, (Int.ofNat 0), []), some (2, 1615, 3, 0, (Int.ofNat 0), []), some (0, 1616, 0, 0, (Int.ofNat 1), [])]
noncomputable def zh_L_100 : List zIx := [(0, 0), (0, 0), (0, 0), (0, 0), (0, 0), (0, 0), (0, 0), (0, 0), (6, 103)]
noncomputable def zt_L_101 : List (Option zX) := [some (7, 1617, 0, 0, (Int.ofNat 0), []), some (22, 1618, 0, 0, (Int.ofNat 0), []), some (2, 1619, 0, 2, (Int.ofNat 0), []), some (2, 1620, 3, 0, (Int.ofNat 0), []), some (0, 1621, 0, 0, (Int.ofNat 2), []), some (7, 1622, 0, 0, (Int.ofNat 0), []), some (22, 1623, 0, 0, (Int.ofNat 0), []), some (2, 1624, 0, 2, (Int.ofNat 0), []), some (2, 1625, 3, 0, (Int.ofNat 0), []), some (0, 1626, 0, 0, (Int.ofNat 3), []), some (7, 1627, 0, 0, (Int.ofNat 0), []), some (22, 1628, 0, 0, (Int.ofNat 0), []), some (29, 1631, 277, 4, (Int.ofNat 12), [((Int.ofNat 0), 7)]), none, none, some (15, 1632, 0, 0, (Int.ofNat 0), [])]
noncomputable def zh_L_101 : List zIx := [(0, 0), (0, 0), (0, 0), (0, 0), (0, 0), (0, 0), (0, 0), (0, 0), (0, 0), (0, 0), (0, 0), (0, 0), (9, 155)]
noncomputable def zt_L_102 : List (Option zX) := [some (1, 1750, 0, 0, (Int.ofNat 0), []), none, none, some (2, 1636, 1, 2, (Int.ofNat 0), []), some (2, 1637, 0, 2, (Int.ofNat 0), []), some (2, 1638, 3, 0, (Int.ofNat 0), []), some (0, 1639, 0, 0, (Int.ofNat 1), []), some (7, 1640, 0, 0, (Int.ofNat 0), []), some (22, 1641, 0, 0, (Int.ofNat 0), []), some (29, 1644, 178, 2, (Int.ofNat 11), [((Int.ofNat 0), 3)]), none, none, some (15, 1645, 0, 0, (Int.ofNat 0), []), some (2, 1646, 2, 2, (Int.ofNat 0), []), some (2, 1647, 0, 2, (Int.ofNat 0), []), some (2, 1648, 3, 0, (Int.ofNat 0), [])]
noncomputable def zh_L_102 : List zIx := [(0, 0), (0, 0), (0, 0), (0, 0), (0, 0), (0, 0), (0, 0), (0, 0), (0, 0), (6, 113)]
noncomputable def zt_L_103 : List (Option zX) := [some (0, 1649, 0, 0, (Int.ofNat 1), []), some (7, 1650, 0, 0, (Int.ofNat 0), []), some (22, 1651, 0, 0, (Int.ofNat 0), []), some (29, 1654, 307, 2, (Int.ofNat 12), [((Int.ofNat 0), 2)]), none, none, some (15, 1655, 0, 0, (Int.ofNat 0), []), some (1, 1750, 0, 0, (Int.ofNat 0), []), none, none, some (2, 1659, 1, 2, (Int.ofNat 0), []), some (2, 1660, 0, 2, (Int.ofNat 0), []), some (2, 1661, 3, 0, (Int.ofNat 0), []), some (0, 1662, 0, 0, (Int.ofNat 1), []), some (7, 1663, 0, 0, (Int.ofNat 0), []), some (22, 1664, 0, 0, (Int.ofNat 0), [])]
noncomputable def zh_L_103 : List zIx := [(0, 0), (0, 0), (0, 0), (9, 160)]
noncomputable def zt_L_104 : List (Option zX) := [some (29, 1667, 173, 2, (Int.ofNat 11), [((Int.ofNat 0), 2)]), none, none, some (15, 1668, 0, 0, (Int.ofNat 0), []), some (2, 1669, 2, 2, (Int.ofNat 0), []), some (2, 1670, 0, 2, (Int.ofNat 0), []), some (2, 1671, 3, 0, (Int.ofNat 0), []), some (0, 1672, 0, 0, (Int.ofNat 1), []), some (7, 1673, 0, 0, (Int.ofNat 0), []), some (22, 1674, 0, 0, (Int.ofNat 0), []), some (29, 1677, 292, 2, (Int.ofNat 12), [((Int.ofNat 0), 2)]), none, none, some (15, 1678, 0, 0, (Int.ofNat 0), []), some (1, 1750, 0, 0, (Int.ofNat 0), [])]
noncomputable def zh_L_104 : List zIx := [(6, 179), (0, 0), (0, 0), (0, 0), (0, 0), (0, 0), (0, 0), (0, 0), (0, 0), (0, 0), (9, 206)]
noncomputable def zt_L_105 : List (Option zX) := [none, some (2, 1682, 1, 2, (Int.ofNat 0), []), some (2, 1683, 0, 2, (Int.ofNat 0), []), some (2, 1684, 3, 0, (Int.ofNat 0), []), some (0, 1685, 0, 0, (Int.ofNat 1), []), some (7, 1686, 0, 0, (Int.ofNat 0), []), some (22, 1687, 0, 0, (Int.ofNat 0), []), some (2, 1688, 0, 2, (Int.ofNat 0), []), some (2, 1689, 3, 0, (Int.ofNat 0), []), some (0, 1690, 0, 0, (Int.ofNat 2), []), some (7, 1691, 0, 0, (Int.ofNat 0), []), some (22, 1692, 0, 0, (Int.ofNat 0), []), some (2, 1693, 0, 2, (Int.ofNat 0), []), some (2, 1694, 3, 0, (Int.ofNat 0), []), some (0, 1695, 0, 0, (Int.ofNat 3), []), some (7, 1696, 0, 0, (Int.ofNat 0), [])]
noncomputable def zh_L_105 : List zIx := []
noncomputable def zt_L_106 : List (Option zX) := [some (22, 1697, 0, 0, (Int.ofNat 0), []), some (29, 1700, 143, 4, (Int.ofNat 11), [((Int.ofNat 0), 6)]), none, none, some (15, 1701, 0, 0, (Int.ofNat 0), []), some (2, 1702, 2, 2, (Int.ofNat 0), []), some (2, 1703, 0, 2, (Int.ofNat 0), []), some (2, 1704, 3, 0, (Int.ofNat 0), []), some (0, 1705, 0, 0, (Int.ofNat 1), []), some (7, 1706, 0, 0, (Int.ofNat 0), []), some (22, 1707, 0, 0, (Int.ofNat 0), []), some (2, 1708, 0, 2, (Int.ofNat 0), []), some (2, 1709, 3, 0, (Int.ofNat 0), []), some (0, 1710, 0, 0, (Int.ofNat 2), []), some (7, 1711, 0, 0, (Int.ofNat 0), []), some (22, 1712, 0, 0, (Int.ofNat 0), [])]
noncomputable def zh_L_106 : List zIx := [(0, 0), (6, 183)]
noncomputable def zt_L_107 : List (Option zX) := [some (2, 1713, 0, 2, (Int.ofNat 0), []), some (2, 1714, 3, 0, (Int.ofNat 0), []), some (0, 1715, 0, 0, (Int.ofNat 3), []), some (7, 1716, 0, 0, (Int.ofNat 0), []), some (22, 1717, 0, 0, (Int.ofNat 0), []), some (29, 1720, 196, 4, (Int.ofNat 12), [((Int.ofNat 0), 7)]), none, none, some (15, 1721, 0, 0, (Int.ofNat 0), []), some (1, 1750, 0, 0, (Int.ofNat 0), []), none, none, some (2, 1725, 1, 2, (Int.ofNat 0), []), some (29, 1728, 165, 1, (Int.ofNat 11), [((Int.ofNat 0), 1)])]
noncomputable def zh_L_107 : List zIx := [(0, 0), (0, 0), (0, 0), (0, 0), (0, 0), (9, 210), (0, 0), (0, 0), (0, 0), (0, 0), (0, 0), (0, 0), (0, 0), (6, 193)]
noncomputable def zt_L_108 : List (Option zX) := [some (15, 1729, 0, 0, (Int.ofNat 0), []), some (2, 1730, 2, 2, (Int.ofNat 0), []), some (29, 1733, 276, 1, (Int.ofNat 12), [((Int.ofNat 0), 1)]), none, none, some (15, 1734, 0, 0, (Int.ofNat 0), []), some (1, 1750, 0, 0, (Int.ofNat 0), []), none, none, some (2, 1738, 1, 2, (Int.ofNat 0), []), some (29, 1741, 144, 1, (Int.ofNat 11), [((Int.ofNat 0), 1)]), none, none, some (15, 1742, 0, 0, (Int.ofNat 0), []), some (2, 1743, 2, 2, (Int.ofNat 0), []), some (29, 1746, 199, 1, (Int.ofNat 12), [((Int.ofNat 0), 1)])]
noncomputable def zh_L_108 : List zIx := [(0, 0), (0, 0), (9, 215), (0, 0), (0, 0), (0, 0), (0, 0), (0, 0), (0, 0), (0, 0), (6, 197), (0, 0), (0, 0), (0, 0), (0, 0), (9, 219)]
noncomputable def zt_L_109 : List (Option zX) := [none, none, some (15, 1747, 0, 0, (Int.ofNat 0), []), some (1, 1750, 0, 0, (Int.ofNat 0), []), none, none, some (5, 1753, 3, 0, (Int.ofNat 6), []), none, none, some (1, 18, 0, 0, (Int.ofNat 0), []), none, none, some (0, 1757, 0, 0, (Int.ofNat 1), []), some (30, 0, 3, 1, (Int.ofNat 0), [])]
noncomputable def zh_L_109 : List zIx := []
noncomputable def zt_L_law : List (List (Option zX)) := [zt_L_0, zt_L_1, zt_L_2, zt_L_3, zt_L_4, zt_L_5, zt_L_6, zt_L_7, zt_L_8, zt_L_9, zt_L_10, zt_L_11, zt_L_12, zt_L_13, zt_L_14, zt_L_15, zt_L_16, zt_L_17, zt_L_18, zt_L_19, zt_L_20, zt_L_21, zt_L_22, zt_L_23, zt_L_24, zt_L_25, zt_L_26, zt_L_27, zt_L_28, zt_L_29, zt_L_30, zt_L_31, zt_L_32, zt_L_33, zt_L_34, zt_L_35, zt_L_36, zt_L_37, zt_L_38, zt_L_39, zt_L_40, zt_L_41, zt_L_42, zt_L_43, zt_L_44, zt_L_45, zt_L_46, zt_L_47, zt_L_48, zt_L_49, zt_L_50, zt_L_51, zt_L_52, zt_L_53, zt_L_54, zt_L_55, zt_L_56, zt_L_57, zt_L_58, zt_L_59, zt_L_60, zt_L_61, zt_L_62, zt_L_63, zt_L_64, zt_L_65, zt_L_66, zt_L_67, zt_L_68, zt_L_69, zt_L_70, zt_L_71, zt_L_72, zt_L_73, zt_L_74, zt_L_75, zt_L_76, zt_L_77, zt_L_78, zt_L_79, zt_L_80, zt_L_81, zt_L_82, zt_L_83, zt_L_84, zt_L_85, zt_L_86, zt_L_87, zt_L_88, zt_L_89, zt_L_90, zt_L_91, zt_L_92, zt_L_93, zt_L_94, zt_L_95, zt_L_96, zt_L_97, zt_L_98, zt_L_99, zt_L_100, zt_L_101, zt_L_102, zt_L_103, zt_L_104, zt_L_105, zt_L_106, zt_L_107, zt_L_108, zt_L_109]
noncomputable def zh_L_law : List (List zIx) := [zh_L_0, zh_L_1, zh_L_2, zh_L_3, zh_L_4, zh_L_5, zh_L_6, zh_L_7, zh_L_8, zh_L_9, zh_L_10, zh_L_11, zh_L_12, zh_L_13, zh_L_14, zh_L_15, zh_L_16, zh_L_17, zh_L_18, zh_L_19, zh_L_20, zh_L_21, zh_L_22, zh_L_23, zh_L_24, zh_L_25, zh_L_26, zh_L_27, zh_L_28, zh_L_29, zh_L_30, zh_L_31, zh_L_32, zh_L_33, zh_L_34, zh_L_35, zh_L_36, zh_L_37, zh_L_38, zh_L_39, zh_L_40, zh_L_41, zh_L_42, zh_L_43, zh_L_44, zh_L_45, zh_L_46, zh_L_47, zh_L_48, zh_L_49, zh_L_50, zh_L_51, zh_L_52, zh_L_53, zh_L_54, zh_L_55, zh_L_56, zh_L_57, zh_L_58, zh_L_59, zh_L_60, zh_L_61, zh_L_62, zh_L_63, zh_L_64, zh_L_65, zh_L_66, zh_L_67, zh_L_68, zh_L_69, zh_L_70, zh_L_71, zh_L_72, zh_L_73, zh_L_74, zh_L_75, zh_L_76, zh_L_77, zh_L_78, zh_L_79, zh_L_80, zh_L_81, zh_L_82, zh_L_83, zh_L_84, zh_L_85, zh_L_86, zh_L_87, zh_L_88, zh_L_89, zh_L_90, zh_L_91, zh_L_92, zh_L_93, zh_L_94, zh_L_95, zh_L_96, zh_L_97, zh_L_98, zh_L_99, zh_L_100, zh_L_101, zh_L_102, zh_L_103, zh_L_104, zh_L_105, zh_L_106, zh_L_107, zh_L_108, zh_L_109]
noncomputable def muL : zM := ("BreadMapLaw", code, 4, ret, "")
theorem zchkU_c {MQ : List (zY × zMh)} {μ : zM} {c : List (Option zX)} {t : List (List (Option zX))} {b : Nat} {h : List zIx} {hs : List (List zIx)} {l : List UInt8} (a : zchkD MQ μ c b h (l.drop b) = true) (d : zchkU MQ μ t (b + 16) hs (l.drop (b + 16)) = true) : zchkU MQ μ (c :: t) b (h :: hs) (l.drop b) = true := by
  show (zchkD MQ μ c b h (l.drop b) && zchkU MQ μ t (b + 16) hs ((l.drop b).drop 16)) = true
  rw [List.drop_drop, a, d]; rfl
theorem oL_0 : zchkD zMQ muL zt_L_0 0 zh_L_0 (muL.2.1.data.toList.drop 0) = true := by decide +kernel
theorem oL_1 : zchkD zMQ muL zt_L_1 16 zh_L_1 (muL.2.1.data.toList.drop 16) = true := by decide +kernel
theorem oL_2 : zchkD zMQ muL zt_L_2 32 zh_L_2 (muL.2.1.data.toList.drop 32) = true := by decide +kernel
theorem oL_3 : zchkD zMQ muL zt_L_3 48 zh_L_3 (muL.2.1.data.toList.drop 48) = true := by decide +kernel
theorem oL_4 : zchkD zMQ muL zt_L_4 64 zh_L_4 (muL.2.1.data.toList.drop 64) = true := by decide +kernel
theorem oL_5 : zchkD zMQ muL zt_L_5 80 zh_L_5 (muL.2.1.data.toList.drop 80) = true := by decide +kernel
theorem oL_6 : zchkD zMQ muL zt_L_6 96 zh_L_6 (muL.2.1.data.toList.drop 96) = true := by decide +kernel
theorem oL_7 : zchkD zMQ muL zt_L_7 112 zh_L_7 (muL.2.1.data.toList.drop 112) = true := by decide +kernel
theorem oL_8 : zchkD zMQ muL zt_L_8 128 zh_L_8 (muL.2.1.data.toList.drop 128) = true := by decide +kernel
theorem oL_9 : zchkD zMQ muL zt_L_9 144 zh_L_9 (muL.2.1.data.toList.drop 144) = true := by decide +kernel
theorem oL_10 : zchkD zMQ muL zt_L_10 160 zh_L_10 (muL.2.1.data.toList.drop 160) = true := by decide +kernel
theorem oL_11 : zchkD zMQ muL zt_L_11 176 zh_L_11 (muL.2.1.data.toList.drop 176) = true := by decide +kernel
theorem oL_12 : zchkD zMQ muL zt_L_12 192 zh_L_12 (muL.2.1.data.toList.drop 192) = true := by decide +kernel
theorem oL_13 : zchkD zMQ muL zt_L_13 208 zh_L_13 (muL.2.1.data.toList.drop 208) = true := by decide +kernel
theorem oL_14 : zchkD zMQ muL zt_L_14 224 zh_L_14 (muL.2.1.data.toList.drop 224) = true := by decide +kernel
theorem oL_15 : zchkD zMQ muL zt_L_15 240 zh_L_15 (muL.2.1.data.toList.drop 240) = true := by decide +kernel
theorem oL_16 : zchkD zMQ muL zt_L_16 256 zh_L_16 (muL.2.1.data.toList.drop 256) = true := by decide +kernel
theorem oL_17 : zchkD zMQ muL zt_L_17 272 zh_L_17 (muL.2.1.data.toList.drop 272) = true := by decide +kernel
theorem oL_18 : zchkD zMQ muL zt_L_18 288 zh_L_18 (muL.2.1.data.toList.drop 288) = true := by decide +kernel
theorem oL_19 : zchkD zMQ muL zt_L_19 304 zh_L_19 (muL.2.1.data.toList.drop 304) = true := by decide +kernel
theorem oL_20 : zchkD zMQ muL zt_L_20 320 zh_L_20 (muL.2.1.data.toList.drop 320) = true := by decide +kernel
theorem oL_21 : zchkD zMQ muL zt_L_21 336 zh_L_21 (muL.2.1.data.toList.drop 336) = true := by decide +kernel
theorem oL_22 : zchkD zMQ muL zt_L_22 352 zh_L_22 (muL.2.1.data.toList.drop 352) = true := by decide +kernel
theorem oL_23 : zchkD zMQ muL zt_L_23 368 zh_L_23 (muL.2.1.data.toList.drop 368) = true := by decide +kernel
theorem oL_24 : zchkD zMQ muL zt_L_24 384 zh_L_24 (muL.2.1.data.toList.drop 384) = true := by decide +kernel
theorem oL_25 : zchkD zMQ muL zt_L_25 400 zh_L_25 (muL.2.1.data.toList.drop 400) = true := by decide +kernel
theorem oL_26 : zchkD zMQ muL zt_L_26 416 zh_L_26 (muL.2.1.data.toList.drop 416) = true := by decide +kernel
theorem oL_27 : zchkD zMQ muL zt_L_27 432 zh_L_27 (muL.2.1.data.toList.drop 432) = true := by decide +kernel
theorem oL_28 : zchkD zMQ muL zt_L_28 448 zh_L_28 (muL.2.1.data.toList.drop 448) = true := by decide +kernel
theorem oL_29 : zchkD zMQ muL zt_L_29 464 zh_L_29 (muL.2.1.data.toList.drop 464) = true := by decide +kernel
theorem oL_30 : zchkD zMQ muL zt_L_30 480 zh_L_30 (muL.2.1.data.toList.drop 480) = true := by decide +kernel
theorem oL_31 : zchkD zMQ muL zt_L_31 496 zh_L_31 (muL.2.1.data.toList.drop 496) = true := by decide +kernel
theorem oL_32 : zchkD zMQ muL zt_L_32 512 zh_L_32 (muL.2.1.data.toList.drop 512) = true := by decide +kernel
theorem oL_33 : zchkD zMQ muL zt_L_33 528 zh_L_33 (muL.2.1.data.toList.drop 528) = true := by decide +kernel
theorem oL_34 : zchkD zMQ muL zt_L_34 544 zh_L_34 (muL.2.1.data.toList.drop 544) = true := by decide +kernel
theorem oL_35 : zchkD zMQ muL zt_L_35 560 zh_L_35 (muL.2.1.data.toList.drop 560) = true := by decide +kernel
theorem oL_36 : zchkD zMQ muL zt_L_36 576 zh_L_36 (muL.2.1.data.toList.drop 576) = true := by decide +kernel
theorem oL_37 : zchkD zMQ muL zt_L_37 592 zh_L_37 (muL.2.1.data.toList.drop 592) = true := by decide +kernel
theorem oL_38 : zchkD zMQ muL zt_L_38 608 zh_L_38 (muL.2.1.data.toList.drop 608) = true := by decide +kernel
theorem oL_39 : zchkD zMQ muL zt_L_39 624 zh_L_39 (muL.2.1.data.toList.drop 624) = true := by decide +kernel
theorem oL_40 : zchkD zMQ muL zt_L_40 640 zh_L_40 (muL.2.1.data.toList.drop 640) = true := by decide +kernel
theorem oL_41 : zchkD zMQ muL zt_L_41 656 zh_L_41 (muL.2.1.data.toList.drop 656) = true := by decide +kernel
theorem oL_42 : zchkD zMQ muL zt_L_42 672 zh_L_42 (muL.2.1.data.toList.drop 672) = true := by decide +kernel
theorem oL_43 : zchkD zMQ muL zt_L_43 688 zh_L_43 (muL.2.1.data.toList.drop 688) = true := by decide +kernel
theorem oL_44 : zchkD zMQ muL zt_L_44 704 zh_L_44 (muL.2.1.data.toList.drop 704) = true := by decide +kernel
theorem oL_45 : zchkD zMQ muL zt_L_45 720 zh_L_45 (muL.2.1.data.toList.drop 720) = true := by decide +kernel
theorem oL_46 : zchkD zMQ muL zt_L_46 736 zh_L_46 (muL.2.1.data.toList.drop 736) = true := by decide +kernel
theorem oL_47 : zchkD zMQ muL zt_L_47 752 zh_L_47 (muL.2.1.data.toList.drop 752) = true := by decide +kernel
theorem oL_48 : zchkD zMQ muL zt_L_48 768 zh_L_48 (muL.2.1.data.toList.drop 768) = true := by decide +kernel
theorem oL_49 : zchkD zMQ muL zt_L_49 784 zh_L_49 (muL.2.1.data.toList.drop 784) = true := by decide +kernel
theorem oL_50 : zchkD zMQ muL zt_L_50 800 zh_L_50 (muL.2.1.data.toList.drop 800) = true := by decide +kernel
theorem oL_51 : zchkD zMQ muL zt_L_51 816 zh_L_51 (muL.2.1.data.toList.drop 816) = true := by decide +kernel
theorem oL_52 : zchkD zMQ muL zt_L_52 832 zh_L_52 (muL.2.1.data.toList.drop 832) = true := by decide +kernel
theorem oL_53 : zchkD zMQ muL zt_L_53 848 zh_L_53 (muL.2.1.data.toList.drop 848) = true := by decide +kernel
theorem oL_54 : zchkD zMQ muL zt_L_54 864 zh_L_54 (muL.2.1.data.toList.drop 864) = true := by decide +kernel
theorem oL_55 : zchkD zMQ muL zt_L_55 880 zh_L_55 (muL.2.1.data.toList.drop 880) = true := by decide +kernel
theorem oL_56 : zchkD zMQ muL zt_L_56 896 zh_L_56 (muL.2.1.data.toList.drop 896) = true := by decide +kernel
theorem oL_57 : zchkD zMQ muL zt_L_57 912 zh_L_57 (muL.2.1.data.toList.drop 912) = true := by decide +kernel
theorem oL_58 : zchkD zMQ muL zt_L_58 928 zh_L_58 (muL.2.1.data.toList.drop 928) = true := by decide +kernel
theorem oL_59 : zchkD zMQ muL zt_L_59 944 zh_L_59 (muL.2.1.data.toList.drop 944) = true := by decide +kernel
theorem oL_60 : zchkD zMQ muL zt_L_60 960 zh_L_60 (muL.2.1.data.toList.drop 960) = true := by decide +kernel
theorem oL_61 : zchkD zMQ muL zt_L_61 976 zh_L_61 (muL.2.1.data.toList.drop 976) = true := by decide +kernel
theorem oL_62 : zchkD zMQ muL zt_L_62 992 zh_L_62 (muL.2.1.data.toList.drop 992) = true := by decide +kernel
theorem oL_63 : zchkD zMQ muL zt_L_63 1008 zh_L_63 (muL.2.1.data.toList.drop 1008) = true := by decide +kernel
theorem oL_64 : zchkD zMQ muL zt_L_64 1024 zh_L_64 (muL.2.1.data.toList.drop 1024) = true := by decide +kernel
theorem oL_65 : zchkD zMQ muL zt_L_65 1040 zh_L_65 (muL.2.1.data.toList.drop 1040) = true := by decide +kernel
theorem oL_66 : zchkD zMQ muL zt_L_66 1056 zh_L_66 (muL.2.1.data.toList.drop 1056) = true := by decide +kernel
theorem oL_67 : zchkD zMQ muL zt_L_67 1072 zh_L_67 (muL.2.1.data.toList.drop 1072) = true := by decide +kernel
theorem oL_68 : zchkD zMQ muL zt_L_68 1088 zh_L_68 (muL.2.1.data.toList.drop 1088) = true := by decide +kernel
theorem oL_69 : zchkD zMQ muL zt_L_69 1104 zh_L_69 (muL.2.1.data.toList.drop 1104) = true := by decide +kernel
theorem oL_70 : zchkD zMQ muL zt_L_70 1120 zh_L_70 (muL.2.1.data.toList.drop 1120) = true := by decide +kernel
theorem oL_71 : zchkD zMQ muL zt_L_71 1136 zh_L_71 (muL.2.1.data.toList.drop 1136) = true := by decide +kernel
theorem oL_72 : zchkD zMQ muL zt_L_72 1152 zh_L_72 (muL.2.1.data.toList.drop 1152) = true := by decide +kernel
theorem oL_73 : zchkD zMQ muL zt_L_73 1168 zh_L_73 (muL.2.1.data.toList.drop 1168) = true := by decide +kernel
theorem oL_74 : zchkD zMQ muL zt_L_74 1184 zh_L_74 (muL.2.1.data.toList.drop 1184) = true := by decide +kernel
theorem oL_75 : zchkD zMQ muL zt_L_75 1200 zh_L_75 (muL.2.1.data.toList.drop 1200) = true := by decide +kernel
theorem oL_76 : zchkD zMQ muL zt_L_76 1216 zh_L_76 (muL.2.1.data.toList.drop 1216) = true := by decide +kernel
theorem oL_77 : zchkD zMQ muL zt_L_77 1232 zh_L_77 (muL.2.1.data.toList.drop 1232) = true := by decide +kernel
theorem oL_78 : zchkD zMQ muL zt_L_78 1248 zh_L_78 (muL.2.1.data.toList.drop 1248) = true := by decide +kernel
theorem oL_79 : zchkD zMQ muL zt_L_79 1264 zh_L_79 (muL.2.1.data.toList.drop 1264) = true := by decide +kernel
theorem oL_80 : zchkD zMQ muL zt_L_80 1280 zh_L_80 (muL.2.1.data.toList.drop 1280) = true := by decide +kernel
theorem oL_81 : zchkD zMQ muL zt_L_81 1296 zh_L_81 (muL.2.1.data.toList.drop 1296) = true := by decide +kernel
theorem oL_82 : zchkD zMQ muL zt_L_82 1312 zh_L_82 (muL.2.1.data.toList.drop 1312) = true := by decide +kernel
theorem oL_83 : zchkD zMQ muL zt_L_83 1328 zh_L_83 (muL.2.1.data.toList.drop 1328) = true := by decide +kernel
theorem oL_84 : zchkD zMQ muL zt_L_84 1344 zh_L_84 (muL.2.1.data.toList.drop 1344) = true := by decide +kernel
theorem oL_85 : zchkD zMQ muL zt_L_85 1360 zh_L_85 (muL.2.1.data.toList.drop 1360) = true := by decide +kernel
theorem oL_86 : zchkD zMQ muL zt_L_86 1376 zh_L_86 (muL.2.1.data.toList.drop 1376) = true := by decide +kernel
theorem oL_87 : zchkD zMQ muL zt_L_87 1392 zh_L_87 (muL.2.1.data.toList.drop 1392) = true := by decide +kernel
theorem oL_88 : zchkD zMQ muL zt_L_88 1408 zh_L_88 (muL.2.1.data.toList.drop 1408) = true := by decide +kernel
theorem oL_89 : zchkD zMQ muL zt_L_89 1424 zh_L_89 (muL.2.1.data.toList.drop 1424) = true := by decide +kernel
theorem oL_90 : zchkD zMQ muL zt_L_90 1440 zh_L_90 (muL.2.1.data.toList.drop 1440) = true := by decide +kernel
theorem oL_91 : zchkD zMQ muL zt_L_91 1456 zh_L_91 (muL.2.1.data.toList.drop 1456) = true := by decide +kernel
theorem oL_92 : zchkD zMQ muL zt_L_92 1472 zh_L_92 (muL.2.1.data.toList.drop 1472) = true := by decide +kernel
theorem oL_93 : zchkD zMQ muL zt_L_93 1488 zh_L_93 (muL.2.1.data.toList.drop 1488) = true := by decide +kernel
theorem oL_94 : zchkD zMQ muL zt_L_94 1504 zh_L_94 (muL.2.1.data.toList.drop 1504) = true := by decide +kernel
theorem oL_95 : zchkD zMQ muL zt_L_95 1520 zh_L_95 (muL.2.1.data.toList.drop 1520) = true := by decide +kernel
theorem oL_96 : zchkD zMQ muL zt_L_96 1536 zh_L_96 (muL.2.1.data.toList.drop 1536) = true := by decide +kernel
theorem oL_97 : zchkD zMQ muL zt_L_97 1552 zh_L_97 (muL.2.1.data.toList.drop 1552) = true := by decide +kernel
theorem oL_98 : zchkD zMQ muL zt_L_98 1568 zh_L_98 (muL.2.1.data.toList.drop 1568) = true := by decide +kernel
theorem oL_99 : zchkD zMQ muL zt_L_99 1584 zh_L_99 (muL.2.1.data.toList.drop 1584) = true := by decide +kernel
theorem oL_100 : zchkD zMQ muL zt_L_100 1600 zh_L_100 (muL.2.1.data.toList.drop 1600) = true := by decide +kernel
theorem oL_101 : zchkD zMQ muL zt_L_101 1616 zh_L_101 (muL.2.1.data.toList.drop 1616) = true := by decide +kernel
theorem oL_102 : zchkD zMQ muL zt_L_102 1632 zh_L_102 (muL.2.1.data.toList.drop 1632) = true := by decide +kernel
theorem oL_103 : zchkD zMQ muL zt_L_103 1648 zh_L_103 (muL.2.1.data.toList.drop 1648) = true := by decide +kernel
theorem oL_104 : zchkD zMQ muL zt_L_104 1664 zh_L_104 (muL.2.1.data.toList.drop 1664) = true := by decide +kernel
theorem oL_105 : zchkD zMQ muL zt_L_105 1680 zh_L_105 (muL.2.1.data.toList.drop 1680) = true := by decide +kernel
theorem oL_106 : zchkD zMQ muL zt_L_106 1696 zh_L_106 (muL.2.1.data.toList.drop 1696) = true := by decide +kernel
theorem oL_107 : zchkD zMQ muL zt_L_107 1712 zh_L_107 (muL.2.1.data.toList.drop 1712) = true := by decide +kernel
theorem oL_108 : zchkD zMQ muL zt_L_108 1728 zh_L_108 (muL.2.1.data.toList.drop 1728) = true := by decide +kernel
theorem oL_109 : zchkD zMQ muL zt_L_109 1744 zh_L_109 (muL.2.1.data.toList.drop 1744) = true := by decide +kernel
theorem oL_law : zchkU zMQ muL zt_L_law 0 zh_L_law (muL.2.1.data.toList.drop 0) = true := zchkU_c oL_0 (zchkU_c oL_1 (zchkU_c oL_2 (zchkU_c oL_3 (zchkU_c oL_4 (zchkU_c oL_5 (zchkU_c oL_6 (zchkU_c oL_7 (zchkU_c oL_8 (zchkU_c oL_9 (zchkU_c oL_10 (zchkU_c oL_11 (zchkU_c oL_12 (zchkU_c oL_13 (zchkU_c oL_14 (zchkU_c oL_15 (zchkU_c oL_16 (zchkU_c oL_17 (zchkU_c oL_18 (zchkU_c oL_19 (zchkU_c oL_20 (zchkU_c oL_21 (zchkU_c oL_22 (zchkU_c oL_23 (zchkU_c oL_24 (zchkU_c oL_25 (zchkU_c oL_26 (zchkU_c oL_27 (zchkU_c oL_28 (zchkU_c oL_29 (zchkU_c oL_30 (zchkU_c oL_31 (zchkU_c oL_32 (zchkU_c oL_33 (zchkU_c oL_34 (zchkU_c oL_35 (zchkU_c oL_36 (zchkU_c oL_37 (zchkU_c oL_38 (zchkU_c oL_39 (zchkU_c oL_40 (zchkU_c oL_41 (zchkU_c oL_42 (zchkU_c oL_43 (zchkU_c oL_44 (zchkU_c oL_45 (zchkU_c oL_46 (zchkU_c oL_47 (zchkU_c oL_48 (zchkU_c oL_49 (zchkU_c oL_50 (zchkU_c oL_51 (zchkU_c oL_52 (zchkU_c oL_53 (zchkU_c oL_54 (zchkU_c oL_55 (zchkU_c oL_56 (zchkU_c oL_57 (zchkU_c oL_58 (zchkU_c oL_59 (zchkU_c oL_60 (zchkU_c oL_61 (zchkU_c oL_62 (zchkU_c oL_63 (zchkU_c oL_64 (zchkU_c oL_65 (zchkU_c oL_66 (zchkU_c oL_67 (zchkU_c oL_68 (zchkU_c oL_69 (zchkU_c oL_70 (zchkU_c oL_71 (zchkU_c oL_72 (zchkU_c oL_73 (zchkU_c oL_74 (zchkU_c oL_75 (zchkU_c oL_76 (zchkU_c oL_77 (zchkU_c oL_78 (zchkU_c oL_79 (zchkU_c oL_80 (zchkU_c oL_81 (zchkU_c oL_82 (zchkU_c oL_83 (zchkU_c oL_84 (zchkU_c oL_85 (zchkU_c oL_86 (zchkU_c oL_87 (zchkU_c oL_88 (zchkU_c oL_89 (zchkU_c oL_90 (zchkU_c oL_91 (zchkU_c oL_92 (zchkU_c oL_93 (zchkU_c oL_94 (zchkU_c oL_95 (zchkU_c oL_96 (zchkU_c oL_97 (zchkU_c oL_98 (zchkU_c oL_99 (zchkU_c oL_100 (zchkU_c oL_101 (zchkU_c oL_102 (zchkU_c oL_103 (zchkU_c oL_104 (zchkU_c oL_105 (zchkU_c oL_106 (zchkU_c oL_107 (zchkU_c oL_108 (zchkU_c oL_109 (rfl))))))))))))))))))))))))))))))))))))))))))))))))))))))))))))))))))))))))))))))))))))))))))))))))))))))))))))))
end
section
/-! THE LAW'S CALLS: each is there, and keeps what holds between calls -/
-- unknown arguments of these kinds
noncomputable def lEnt : List Nat → aQ → aQ × List aV
  | [], q => (q, [])
  | t :: ts, q => ((lEnt ts (q.1 + 1, (q.1, a_lo t, a_hi t) :: q.2.1, q.2.2)).1, (t, q.1 + 1, 0) :: (lEnt ts (q.1 + 1, (q.1, a_lo t, a_hi t) :: q.2.1, q.2.2)).2)
def lTy : List Nat → List zV → Prop
  | [], [] => True
  | t :: ts, z :: zs => (z.1 = t ∧ a_lo t ≤ z.2 ∧ z.2 ≤ a_hi t) ∧ lTy ts zs
  | _, _ => False
theorem lEnt_ok {X : aX} {h : zH} : ∀ {ts : List Nat} {bs : List zV} {q : aQ} {ρ : Nat → Int}, aDen X ρ q h → lTy ts bs → ∃ ρ', aAg ρ ρ' q.1 ∧ q.1 ≤ (lEnt ts q).1.1 ∧ aDen X ρ' (lEnt ts q).1 h ∧ aRl ρ' (lEnt ts q).1.1 (lEnt ts q).2 bs
  | [], [], q, ρ, g, _ => ⟨ρ, aAg.refl _ _, Nat.le_refl _, g, trivial⟩
  | [], _ :: _, _, _, _, hz => hz.elim
  | _ :: _, [], _, _, _, hz => hz.elim
  | t :: ts, z :: zs, q, ρ, g, ⟨⟨h1, h2, h3⟩, hz⟩ => by
    obtain ⟨ρ', ha, hn, g', hr⟩ := lEnt_ok (g.push h2 h3) hz
    have hn : q.1 + 1 ≤ (lEnt ts (q.1 + 1, (q.1, a_lo t, a_hi t) :: q.2.1, q.2.2)).1.1 := hn
    refine ⟨ρ', (aup_ag ρ q.1 z.2).trans ha (Nat.le_succ _), Nat.le_trans (Nat.le_succ _) hn, g', ⟨⟨hn, ?_⟩, hr⟩⟩
    show z = (t, ρ' q.1 + 0)
    rw [ha q.1 (Nat.lt_succ_self _), aup_at, Int.add_zero]
    exact Prod.ext h1 rfl
-- the call by what the contracts say, from a state between calls: each way it ends in such a state again (whose first unknown is the answer)
noncomputable def lCk (G : aG) (Ks : List aK) (d mj : Nat) (rc : Int) (ts : List Nat) (t : Nat) (M : aM) (qs : List aQ) (q : aQ) : Bool := match a_pick G M d mj (lEnt ts q).1 ((2, 0, rc) :: (lEnt ts q).2) Ks with
  | some rets => a_all (fun r => a_any (fun p => a_retOK G 0 r (p, some (t, 1, 0))) qs) rets
  | none => false
def lI (G : aG) (D : zD) (Fl : Nat → zH → Prop) (qs : List aQ) (h : zH) : Prop := ∃ q ∈ qs, ∃ ρ, aDen (aG0 G, D, Fl, h, []) ρ q h
theorem lCall {G : aG} {D : zD} {Fl : Nat → zH → Prop} {T : zT} {Ks : List aK} {d mj : Nat} {rc : Int} {ts : List Nat} {t : Nat} {M : aM} {qs qs' : List aQ} {h : zH} {bs : List zV} (hX : ∀ h m, aOK (aG0 G, D, Fl, h, m)) (hK : ∀ κ ∈ Ks, aSpecO 0 G D Fl T κ) (hck : a_all (lCk (aG0 G) Ks d mj rc ts t M qs') qs = true) (hI : lI G D Fl qs h) (hty : lTy ts bs) : ∃ h1 z, zRun D T d mj 0 (h, zargs 0 ((2, rc) :: bs), []) (h1, some (t, z)) ∧ lI G D Fl qs' h1 ∧ aFr M h h1 := by
  obtain ⟨q, hq, ρ, g⟩ := hI
  have g1 : aDen (aG0 G, D, Fl, h, M) ρ q h := ⟨g.1, g.2.1, g.2.2.1, g.2.2.2.1, fun _ _ _ => rfl, g.2.2.2.2.2⟩
  obtain ⟨ρ', -, -, g2, hR⟩ := lEnt_ok g1 hty
  have hc := a_all_ok hck q hq
  unfold lCk at hc
  cases hp : a_pick (aG0 G) M d mj (lEnt ts q).1 ((2, 0, rc) :: (lEnt ts q).2) Ks with
  | none => rw [hp] at hc; cases hc
  | some rets =>
    rw [hp] at hc
    have hK' : ∀ κ ∈ Ks, aSpecO 0 (aG0 G) D Fl T κ := fun κ h => hK κ h
    obtain ⟨r, z1, x, hx, ρ2, -, -, g3, hv⟩ := a_pick_ok (X := (aG0 G, D, Fl, h, M)) (o := 0) (T := T) (as := (2, 0, rc) :: (lEnt ts q).2) (bs := (2, rc) :: bs) (hX h M) g2 ⟨⟨Nat.zero_le _, rfl⟩, hR⟩ hK' hp
    obtain ⟨p, hp1, hp2⟩ := a_any_ok (a_all_ok hc x hx)
    obtain ⟨σ, -, -, g4, hv4⟩ := a_retOK_ok (X := (aG0 G, D, Fl, h, M)) hp2 (Nat.zero_le _) g3 hv
    rw [Nat.zero_add] at z1
    obtain ⟨h1, w⟩ := r
    have hv4 : aRo σ p.1 (some (t, 1, 0)) w := hv4
    have g4 : aDen (aG0 G, D, Fl, h, M) σ p h1 := g4
    match w, z1, hv4 with
    | some (t', z), z1, hv4 =>
      have e : t' = t := congrArg Prod.fst hv4.2
      rw [e] at z1
      exact ⟨h1, z, z1, ⟨p, hp1, σ, ⟨g4.1, g4.2.1, g4.2.2.1, g4.2.2.2.1, fun _ _ _ => rfl, g4.2.2.2.2.2⟩⟩, g4.2.2.2.2.1⟩
/-! what changes nothing of these places -/
noncomputable def lFree (S M : aM) : Bool := a_all (fun x => !(a_hits S x.1 (Int.ofNat x.2.1) (Int.ofNat x.2.2))) M
theorem lFree_ok {S M : aM} (h : lFree S M = true) {r k : Nat} (hs : aIn S r k) : ¬ aIn M r k := by
  intro hm
  obtain ⟨x, hx, x1, x2, x3⟩ := hm
  have hb := a_all_ok h x hx
  rw [Bool.not_eq_true'] at hb
  obtain ⟨y, hy, y1, y2, y3⟩ := hs
  have : a_hits S x.1 (Int.ofNat x.2.1) (Int.ofNat x.2.2) = true := by
    clear h hb
    induction S with
    | nil => cases hy
    | cons s S ih =>
      show ((Nat.beq s.1 x.1 && (@decide (Int.ofNat x.2.1 ≤ Int.ofNat s.2.2) (a_decLe _ _) && @decide (Int.ofNat s.2.1 ≤ Int.ofNat x.2.2) (a_decLe _ _))) || a_hits S x.1 (Int.ofNat x.2.1) (Int.ofNat x.2.2)) = true
      rw [Bool.or_eq_true]
      rcases List.mem_cons.mp hy with e | e
      · refine Or.inl ?_
        rw [Bool.and_eq_true, Bool.and_eq_true, a_dec_eq, a_dec_eq]
        subst e
        refine ⟨?_, ?_, ?_⟩
        · rw [y1, x1]; exact Nat.beq_refl r
        · exact Int.ofNat_le.mpr (by omega)
        · exact Int.ofNat_le.mpr (by omega)
      · exact Or.inr (ih e)
  rw [this] at hb
  cases hb
theorem aFr.keep {S M : aM} {h h1 : zH} (g : aFr M h h1) (hf : lFree S M = true) {r k : Nat} (hs : aIn S r k) : h1 r k = h r k := g r k (lFree_ok hf hs)
def lRs (S : aM) (R : zH → Prop) : Prop := ∀ h h', (∀ r k, aIn S r k → h' r k = h r k) → R h → R h'
theorem lRs.fr {S M : aM} {R : zH → Prop} (hS : lRs S R) (hf : lFree S M = true) {h h1 : zH} (g : aFr M h h1) (hR : R h) : R h1 := hS h h1 (fun _ _ hs => g.keep hf hs) hR
/-! the law's own steps -/
section LS
variable {D : zD} {T : zT} {d mi pc nx a b : Nat} {z : Int} {cs : List (Int × Nat)} {h : zH} {L : zL} {S : List zV} {r : zR}
theorem hq_pop (hi : T mi pc = some (15, nx, a, 0, z, cs)) {v : zV} (hc : zcat v = 1) (k : zRun D T d mi nx (h, L, S) r) : zRun D T d mi pc (h, L, v :: S) r := by
  refine zRun.step hi ?_ k
  show z_stk nx 0 (h, L, v :: S) = _
  exact if_pos hc
theorem hq_pop2 (hi : T mi pc = some (15, nx, a, 1, z, cs)) {v : zV} (hc : zcat v = 2) (k : zRun D T d mi nx (h, L, S) r) : zRun D T d mi pc (h, L, v :: S) r := by
  refine zRun.step hi ?_ k
  show z_stk nx 1 (h, L, v :: S) = _
  exact if_pos hc
theorem hq_sh64 (hi : T mi pc = some (12, nx, a, b, z, cs)) {x y : Int} (k : zRun D T d mi nx (h, L, (1, (zs64 b (Int64.ofInt x) (Int32.ofInt y)).toInt) :: S) r) : zRun D T d mi pc (h, L, (0, y) :: (1, x) :: S) r := zRun.step hi rfl k
theorem hq_bin64 (hi : T mi pc = some (10, nx, a, b, z, cs)) {x y : Int} (k : zRun D T d mi nx (h, L, (1, (zf64 b (Int64.ofInt x) (Int64.ofInt y)).toInt) :: S) r) : zRun D T d mi pc (h, L, (1, y) :: (1, x) :: S) r := zRun.step hi rfl k
theorem hq_aldS (hi : T mi pc = some (22, nx, 0, b, z, cs)) {i : Int} (h0 : 0 ≤ i) (h1 : i < (D.1 : Int)) (k : zRun D T d mi nx (h, L, (0, D.2 i.toNat) :: S) r) : zRun D T d mi pc (h, L, (0, i) :: (3, 0) :: S) r := by
  refine zRun.step hi ?_ k
  show (if 0 = 0 ∧ 0 ≤ (0 : Int) ∧ (0 : Int) < 3 ∧ 0 ≤ i ∧ i < (zlen D (0 : Int).toNat : Int) then znx nx (h, L, (0, zat D (0 : Int).toNat i.toNat) :: S) else none) = _
  rw [if_pos ⟨rfl, Int.le_refl _, by decide, h0, h1⟩]
  rfl
theorem hq_alenS (hi : T mi pc = some (24, nx, a, b, z, cs)) (k : zRun D T d mi nx (h, L, (0, (D.1 : Int)) :: S) r) : zRun D T d mi pc (h, L, (3, 0) :: S) r := by
  refine zRun.step hi ?_ k
  show (if 0 ≤ (0 : Int) ∧ (0 : Int) < 3 then znx nx (h, L, (0, (zlen D (0 : Int).toNat : Int)) :: S) else none) = _
  rw [if_pos ⟨Int.le_refl _, by decide⟩]
  rfl
theorem hq_sw (hi : T mi pc = some (19, nx, a, b, z, cs)) {x : Int} (k : zRun D T d mi (zfind nx x cs) (h, L, S) r) : zRun D T d mi pc (h, L, (0, x) :: S) r := zRun.step hi rfl k
theorem zfind_in {x : Int} : ∀ {cs : List (Int × Nat)}, (∃ q ∈ cs, zfind nx x cs = q.2) ∨ zfind nx x cs = nx
  | [] => Or.inr rfl
  | q :: cs => by
    show (∃ q' ∈ q :: cs, (if x = q.1 then q.2 else zfind nx x cs) = q'.2) ∨ (if x = q.1 then q.2 else zfind nx x cs) = nx
    by_cases e : x = q.1
    · rw [if_pos e]; exact Or.inl ⟨q, List.mem_cons_self, rfl⟩
    · rw [if_neg e]
      rcases zfind_in (cs := cs) with ⟨q', h1, h2⟩ | h1
      · exact Or.inl ⟨q', List.mem_cons_of_mem _ h1, h2⟩
      · exact Or.inr h1
def Lv (i : Int) : zL := fun k => match k with
  | 0 => some (3, 0)
  | 1 => some (2, 0)
  | 2 => some (2, 121)
  | 3 => some (0, i)
  | _ => none
theorem Lv_inc {i j : Int} : zput1 (Lv i) 3 (0, j) = Lv j := by
  funext k
  match k with
  | 0 => rfl
  | 1 => rfl
  | 2 => rfl
  | 3 => rfl
  | k + 4 => exact if_neg (by omega)
/-- script[i + c] -/
theorem hl_arg {p1 p2 p3 p4 b2 a3 b4 : Nat} {z1 z2 z4 c : Int} {cs1 cs2 cs3 cs4 : List (Int × Nat)} {i : Int} (e0 : T mi pc = some (2, p1, 0, 2, z, cs)) (e1 : T mi p1 = some (2, p2, 3, 0, z1, cs1)) (e2 : T mi p2 = some (0, p3, 0, b2, c, cs2)) (e3 : T mi p3 = some (7, p4, a3, 0, z2, cs3)) (e4 : T mi p4 = some (22, nx, 0, b4, z4, cs4)) (h0 : 0 ≤ i) (hc : 0 ≤ c) (h6 : i + c < (D.1 : Int)) (hN : D.1 < 2147483648) (k : zRun D T d mi nx (h, Lv i, (0, D.2 (i + c).toNat) :: S) r) : zRun D T d mi pc (h, Lv i, S) r := by
  refine hq_load e0 rfl rfl ?_
  refine hq_load e1 rfl rfl ?_
  refine hq_push e2 ?_
  refine hq_bin e3 (hq_add (by omega) (by omega)) ?_
  exact hq_aldS e4 (by omega) h6 k
end LS
def lLong (x y : Int) : Int := (zf64 4 (Int64.ofInt (zs64 0 (Int64.ofInt x) (Int32.ofInt 32)).toInt) (Int64.ofInt (zf64 3 (Int64.ofInt y) (Int64.ofInt 4294967295)).toInt)).toInt
theorem lLong_ty {x y : Int} : a_lo 1 ≤ lLong x y ∧ lLong x y ≤ a_hi 1 := by
  have h1 := Int64.le_toInt (zf64 4 (Int64.ofInt (zs64 0 (Int64.ofInt x) (Int32.ofInt 32)).toInt) (Int64.ofInt (zf64 3 (Int64.ofInt y) (Int64.ofInt 4294967295)).toInt))
  have h2 := Int64.toInt_lt (zf64 4 (Int64.ofInt (zs64 0 (Int64.ofInt x) (Int32.ofInt 32)).toInt) (Int64.ofInt (zf64 3 (Int64.ofInt y) (Int64.ofInt 4294967295)).toInt))
  unfold lLong
  show (-9223372036854775808 : Int) ≤ _ ∧ _ ≤ (9223372036854775807 : Int)
  omega
end
section
/-! printed by wip/l/genlaw.py: the contracts that the law calls; the states between calls; each call checked -/
noncomputable def sLaw : List aK := [k_16, k_30, k_37, k_38, k_40, k_42, k_44, k_45, k_47, k_49, k_51, k_52, k_53, k_54, k_55, k_58, k_59, k_60, k_61, k_62, k_63, k_66, k_81, k_82, k_85, k_86, k_89, k_90, k_94, k_95, k_123, k_126, k_127, k_130, k_133, k_136, k_137, k_148, k_158, k_159, k_160, k_216, k_217, k_218, k_219, k_220, k_223, k_224, k_225, k_226, k_229, k_230, k_237, k_242, k_243, k_252, k_255, k_256, k_257, k_258, k_273, k_274, k_346, k_348, k_350, k_352, k_353, k_355, k_356, k_357, k_358, k_359, k_360, k_362, k_370, k_371, k_372, k_373, k_375, k_376, k_378, k_379, k_530, k_532, k_533, k_535, k_537, k_539, k_540, k_543, k_547, k_548, k_549, k_646, k_647, k_648, k_649, k_650, k_651, k_652, k_653, k_654, k_655, k_656, k_659, k_661, k_662, k_663, k_664, k_665, k_666, k_667, k_668, k_669]
theorem kLaw_deps {o : Nat} {D : zD} {Fl : Nat → zH → Prop} {T : zT} (H : kH2 o D Fl T) : ∀ κ ∈ sLaw, aSpecO o aG1 D Fl T κ := (List.forall_mem_cons.mpr ⟨ko_16 H.1, (List.forall_mem_cons.mpr ⟨ko_30 H.1, (List.forall_mem_cons.mpr ⟨ko_37 H.1, (List.forall_mem_cons.mpr ⟨ko_38 H.1, (List.forall_mem_cons.mpr ⟨ko_40 H.1, (List.forall_mem_cons.mpr ⟨ko_42 H.1, (List.forall_mem_cons.mpr ⟨ko_44 H.1, (List.forall_mem_cons.mpr ⟨ko_45 H.1, (List.forall_mem_cons.mpr ⟨ko_47 H.1, (List.forall_mem_cons.mpr ⟨ko_49 H.1, (List.forall_mem_cons.mpr ⟨ko_51 H.1, (List.forall_mem_cons.mpr ⟨ko_52 H.1, (List.forall_mem_cons.mpr ⟨ko_53 H.1, (List.forall_mem_cons.mpr ⟨ko_54 H.1, (List.forall_mem_cons.mpr ⟨ko_55 H.1, (List.forall_mem_cons.mpr ⟨ko_58 H.1, (List.forall_mem_cons.mpr ⟨ko_59 H.1, (List.forall_mem_cons.mpr ⟨ko_60 H.1, (List.forall_mem_cons.mpr ⟨ko_61 H.1, (List.forall_mem_cons.mpr ⟨ko_62 H.1, (List.forall_mem_cons.mpr ⟨ko_63 H.1, (List.forall_mem_cons.mpr ⟨ko_66 H.1, (List.forall_mem_cons.mpr ⟨ko_81 H.1, (List.forall_mem_cons.mpr ⟨ko_82 H.1, (List.forall_mem_cons.mpr ⟨ko_85 H.1, (List.forall_mem_cons.mpr ⟨ko_86 H.1, (List.forall_mem_cons.mpr ⟨ko_89 H.1, (List.forall_mem_cons.mpr ⟨ko_90 H.1, (List.forall_mem_cons.mpr ⟨ko_94 H.1, (List.forall_mem_cons.mpr ⟨ko_95 H.1, (List.forall_mem_cons.mpr ⟨ko_123 H.1, (List.forall_mem_cons.mpr ⟨ko_126 H.1, (List.forall_mem_cons.mpr ⟨ko_127 H.1, (List.forall_mem_cons.mpr ⟨ko_130 H.1, (List.forall_mem_cons.mpr ⟨ko_133 H.1, (List.forall_mem_cons.mpr ⟨ko_136 H.1, (List.forall_mem_cons.mpr ⟨ko_137 H.1, (List.forall_mem_cons.mpr ⟨ko_148 H.1, (List.forall_mem_cons.mpr ⟨ko_158 H.1, (List.forall_mem_cons.mpr ⟨ko_159 H.1, (List.forall_mem_cons.mpr ⟨ko_160 H.1, (List.forall_mem_cons.mpr ⟨ko_216 H.1, (List.forall_mem_cons.mpr ⟨ko_217 H.1, (List.forall_mem_cons.mpr ⟨ko_218 H.1, (List.forall_mem_cons.mpr ⟨ko_219 H.1, (List.forall_mem_cons.mpr ⟨ko_220 H.1, (List.forall_mem_cons.mpr ⟨ko_223 H.1, (List.forall_mem_cons.mpr ⟨ko_224 H.1, (List.forall_mem_cons.mpr ⟨ko_225 H.1, (List.forall_mem_cons.mpr ⟨ko_226 H.1, (List.forall_mem_cons.mpr ⟨ko_229 H.1, (List.forall_mem_cons.mpr ⟨ko_230 H.1, (List.forall_mem_cons.mpr ⟨ko_237 H.1, (List.forall_mem_cons.mpr ⟨ko_242 H.1, (List.forall_mem_cons.mpr ⟨ko_243 H.1, (List.forall_mem_cons.mpr ⟨ko_252 H.1, (List.forall_mem_cons.mpr ⟨ko_255 H.1, (List.forall_mem_cons.mpr ⟨ko_256 H.1, (List.forall_mem_cons.mpr ⟨ko_257 H.1, (List.forall_mem_cons.mpr ⟨ko_258 H.1, (List.forall_mem_cons.mpr ⟨ko_273 H.1, (List.forall_mem_cons.mpr ⟨ko_274 H.1, (List.forall_mem_cons.mpr ⟨ko_346 H, (List.forall_mem_cons.mpr ⟨ko_348 H.1, (List.forall_mem_cons.mpr ⟨ko_350 H.1, (List.forall_mem_cons.mpr ⟨ko_352 H.1, (List.forall_mem_cons.mpr ⟨ko_353 H.1, (List.forall_mem_cons.mpr ⟨ko_355 H.1, (List.forall_mem_cons.mpr ⟨ko_356 H.1, (List.forall_mem_cons.mpr ⟨ko_357 H.1, (List.forall_mem_cons.mpr ⟨ko_358 H.1, (List.forall_mem_cons.mpr ⟨ko_359 H.1, (List.forall_mem_cons.mpr ⟨ko_360 H.1, (List.forall_mem_cons.mpr ⟨ko_362 H.1, (List.forall_mem_cons.mpr ⟨ko_370 H.1, (List.forall_mem_cons.mpr ⟨ko_371 H.1, (List.forall_mem_cons.mpr ⟨ko_372 H.1, (List.forall_mem_cons.mpr ⟨ko_373 H.1, (List.forall_mem_cons.mpr ⟨ko_375 H.1, (List.forall_mem_cons.mpr ⟨ko_376 H.1, (List.forall_mem_cons.mpr ⟨ko_378 H.1, (List.forall_mem_cons.mpr ⟨ko_379 H.1, (List.forall_mem_cons.mpr ⟨ko_530 H.1, (List.forall_mem_cons.mpr ⟨ko_532 H.1, (List.forall_mem_cons.mpr ⟨ko_533 H.1, (List.forall_mem_cons.mpr ⟨ko_535 H.1, (List.forall_mem_cons.mpr ⟨ko_537 H.1, (List.forall_mem_cons.mpr ⟨ko_539 H.1, (List.forall_mem_cons.mpr ⟨ko_540 H.1, (List.forall_mem_cons.mpr ⟨ko_543 H.1, (List.forall_mem_cons.mpr ⟨ko_547 H.1, (List.forall_mem_cons.mpr ⟨ko_548 H.1, (List.forall_mem_cons.mpr ⟨ko_549 H.1, (List.forall_mem_cons.mpr ⟨ko_646 H.1, (List.forall_mem_cons.mpr ⟨ko_647 H.1, (List.forall_mem_cons.mpr ⟨ko_648 H.1, (List.forall_mem_cons.mpr ⟨ko_649 H.1, (List.forall_mem_cons.mpr ⟨ko_650 H.1, (List.forall_mem_cons.mpr ⟨ko_651 H, (List.forall_mem_cons.mpr ⟨ko_652 H.1, (List.forall_mem_cons.mpr ⟨ko_653 H.1, (List.forall_mem_cons.mpr ⟨ko_654 H.1, (List.forall_mem_cons.mpr ⟨ko_655 H.1, (List.forall_mem_cons.mpr ⟨ko_656 H.1, (List.forall_mem_cons.mpr ⟨ko_659 H.1, (List.forall_mem_cons.mpr ⟨ko_661 H.1, (List.forall_mem_cons.mpr ⟨ko_662 H.1, (List.forall_mem_cons.mpr ⟨ko_663 H.1, (List.forall_mem_cons.mpr ⟨ko_664 H.1, (List.forall_mem_cons.mpr ⟨ko_665 H.1, (List.forall_mem_cons.mpr ⟨ko_666 H.1, (List.forall_mem_cons.mpr ⟨ko_667 H.1, (List.forall_mem_cons.mpr ⟨ko_668 H.1, (List.forall_mem_cons.mpr ⟨ko_669 H.1, fun _ h => absurd h List.not_mem_nil⟩)⟩)⟩)⟩)⟩)⟩)⟩)⟩)⟩)⟩)⟩)⟩)⟩)⟩)⟩)⟩)⟩)⟩)⟩)⟩)⟩)⟩)⟩)⟩)⟩)⟩)⟩)⟩)⟩)⟩)⟩)⟩)⟩)⟩)⟩)⟩)⟩)⟩)⟩)⟩)⟩)⟩)⟩)⟩)⟩)⟩)⟩)⟩)⟩)⟩)⟩)⟩)⟩)⟩)⟩)⟩)⟩)⟩)⟩)⟩)⟩)⟩)⟩)⟩)⟩)⟩)⟩)⟩)⟩)⟩)⟩)⟩)⟩)⟩)⟩)⟩)⟩)⟩)⟩)⟩)⟩)⟩)⟩)⟩)⟩)⟩)⟩)⟩)⟩)⟩)⟩)⟩)⟩)⟩)⟩)⟩)⟩)⟩)⟩)⟩)⟩)⟩)⟩)⟩)⟩)⟩)⟩)⟩)⟩)⟩)⟩)⟩)⟩)⟩)
def lQ_0 : aQ := (1, [(0, (-9223372036854775808), 9223372036854775807)], [], [((0, 0, 10), (0, 0, 0)), ((121, 0, 23), (0, 0, 0))], [30, 61, 92, 123, 217, 218, 219, 220, 221, 222, 345, 346, 347, 348])
def lQ_1 : aQ := (5, [(4, 2, 8), (3, 1, 6), (2, 1, 3), (1, 0, 6), (0, (-9223372036854775808), 9223372036854775807)], [], [((126, 0, 553), (0, 2, 0)), ((126, 0, 552), (0, 3, 0)), ((126, 0, 551), (0, 4, 0)), ((126, 0, 550), (0, 5, 0)), ((121, 0, 23), (0, 0, 1)), ((0, 0, 10), (0, 0, 1))], [30, 61, 92, 123, 217, 218, 219, 220, 221, 222, 345, 346, 347, 348])
def lQ_2 : aQ := (9, [(8, 2, 8), (7, 1, 6), (6, 1, 3), (5, 0, 6), (4, 2, 8), (3, 1, 6), (2, 1, 3), (1, 0, 6), (0, (-9223372036854775808), 9223372036854775807)], [], [((126, 0, 1103), (0, 2, 0)), ((126, 0, 1102), (0, 3, 0)), ((126, 0, 1101), (0, 4, 0)), ((126, 0, 1100), (0, 5, 0)), ((121, 0, 23), (0, 0, 2)), ((0, 0, 10), (0, 0, 2)), ((126, 0, 553), (0, 6, 0)), ((126, 0, 552), (0, 7, 0)), ((126, 0, 551), (0, 8, 0)), ((126, 0, 550), (0, 9, 0))], [30, 61, 92, 123, 217, 218, 219, 220, 221, 222, 345, 346, 347, 348])
def lQ_3 : aQ := (13, [(12, 2, 8), (11, 1, 6), (10, 1, 3), (9, 0, 6), (8, 2, 8), (7, 1, 6), (6, 1, 3), (5, 0, 6), (4, 2, 8), (3, 1, 6), (2, 1, 3), (1, 0, 6), (0, (-9223372036854775808), 9223372036854775807)], [], [((126, 0, 1653), (0, 2, 0)), ((126, 0, 1652), (0, 3, 0)), ((126, 0, 1651), (0, 4, 0)), ((126, 0, 1650), (0, 5, 0)), ((121, 0, 23), (0, 0, 3)), ((0, 0, 10), (0, 0, 3)), ((126, 0, 1103), (0, 6, 0)), ((126, 0, 1102), (0, 7, 0)), ((126, 0, 1101), (0, 8, 0)), ((126, 0, 1100), (0, 9, 0)), ((126, 0, 553), (0, 10, 0)), ((126, 0, 552), (0, 11, 0)), ((126, 0, 551), (0, 12, 0)), ((126, 0, 550), (0, 13, 0))], [30, 61, 92, 123, 217, 218, 219, 220, 221, 222, 345, 346, 347, 348])
def lQs : List aQ := [lQ_0, lQ_1, lQ_2, lQ_3]
def lQk_0 : aQ := (1, [(0, (-9223372036854775808), 9223372036854775807)], [], [((0, 0, 10), (0, 0, 1)), ((121, 0, 23), (0, 0, 0))], [30, 61, 92, 123, 217, 218, 219, 220, 221, 222, 345, 346, 347, 348])
def lQk_1 : aQ := (5, [(4, 2, 8), (3, 1, 6), (2, 1, 3), (1, 0, 6), (0, (-9223372036854775808), 9223372036854775807)], [], [((126, 0, 553), (0, 2, 0)), ((126, 0, 552), (0, 3, 0)), ((126, 0, 551), (0, 4, 0)), ((126, 0, 550), (0, 5, 0)), ((121, 0, 23), (0, 0, 1)), ((0, 0, 10), (0, 0, 2))], [30, 61, 92, 123, 217, 218, 219, 220, 221, 222, 345, 346, 347, 348])
def lQk_2 : aQ := (9, [(8, 2, 8), (7, 1, 6), (6, 1, 3), (5, 0, 6), (4, 2, 8), (3, 1, 6), (2, 1, 3), (1, 0, 6), (0, (-9223372036854775808), 9223372036854775807)], [], [((126, 0, 1103), (0, 2, 0)), ((126, 0, 1102), (0, 3, 0)), ((126, 0, 1101), (0, 4, 0)), ((126, 0, 1100), (0, 5, 0)), ((121, 0, 23), (0, 0, 2)), ((0, 0, 10), (0, 0, 3)), ((126, 0, 553), (0, 6, 0)), ((126, 0, 552), (0, 7, 0)), ((126, 0, 551), (0, 8, 0)), ((126, 0, 550), (0, 9, 0))], [30, 61, 92, 123, 217, 218, 219, 220, 221, 222, 345, 346, 347, 348])
def lQk_3 : aQ := (13, [(12, 2, 8), (11, 1, 6), (10, 1, 3), (9, 0, 6), (8, 2, 8), (7, 1, 6), (6, 1, 3), (5, 0, 6), (4, 2, 8), (3, 1, 6), (2, 1, 3), (1, 0, 6), (0, (-9223372036854775808), 9223372036854775807)], [], [((126, 0, 1653), (0, 2, 0)), ((126, 0, 1652), (0, 3, 0)), ((126, 0, 1651), (0, 4, 0)), ((126, 0, 1650), (0, 5, 0)), ((121, 0, 23), (0, 0, 3)), ((0, 0, 10), (0, 0, 3)), ((126, 0, 1103), (0, 6, 0)), ((126, 0, 1102), (0, 7, 0)), ((126, 0, 1101), (0, 8, 0)), ((126, 0, 1100), (0, 9, 0)), ((126, 0, 553), (0, 10, 0)), ((126, 0, 552), (0, 11, 0)), ((126, 0, 551), (0, 12, 0)), ((126, 0, 550), (0, 13, 0))], [30, 61, 92, 123, 217, 218, 219, 220, 221, 222, 345, 346, 347, 348])
def lQk : List aQ := [lQk_0, lQk_1, lQk_2, lQk_3]
def lQb_0 : aQ := (1, [(0, (-9223372036854775808), 9223372036854775807)], [], [((0, 0, 10), (0, 0, 0)), ((121, 0, 23), (0, 0, 0))], [30, 61, 92, 123, 217, 218, 219, 220, 221, 222, 345, 346, 347, 348])
def lQb_1 : aQ := (5, [(4, 2, 8), (3, 1, 6), (2, 1, 3), (1, 0, 6), (0, (-9223372036854775808), 9223372036854775807)], [], [((126, 0, 553), (0, 2, 0)), ((126, 0, 552), (0, 3, 0)), ((126, 0, 551), (0, 4, 0)), ((126, 0, 550), (0, 5, 0)), ((121, 0, 23), (0, 0, 1)), ((0, 0, 10), (0, 0, 0))], [30, 61, 92, 123, 217, 218, 219, 220, 221, 222, 345, 346, 347, 348])
def lQb_2 : aQ := (9, [(8, 2, 8), (7, 1, 6), (6, 1, 3), (5, 0, 6), (4, 2, 8), (3, 1, 6), (2, 1, 3), (1, 0, 6), (0, (-9223372036854775808), 9223372036854775807)], [], [((126, 0, 1103), (0, 2, 0)), ((126, 0, 1102), (0, 3, 0)), ((126, 0, 1101), (0, 4, 0)), ((126, 0, 1100), (0, 5, 0)), ((121, 0, 23), (0, 0, 2)), ((0, 0, 10), (0, 0, 1)), ((126, 0, 553), (0, 6, 0)), ((126, 0, 552), (0, 7, 0)), ((126, 0, 551), (0, 8, 0)), ((126, 0, 550), (0, 9, 0))], [30, 61, 92, 123, 217, 218, 219, 220, 221, 222, 345, 346, 347, 348])
def lQb_3 : aQ := (13, [(12, 2, 8), (11, 1, 6), (10, 1, 3), (9, 0, 6), (8, 2, 8), (7, 1, 6), (6, 1, 3), (5, 0, 6), (4, 2, 8), (3, 1, 6), (2, 1, 3), (1, 0, 6), (0, (-9223372036854775808), 9223372036854775807)], [], [((126, 0, 1653), (0, 2, 0)), ((126, 0, 1652), (0, 3, 0)), ((126, 0, 1651), (0, 4, 0)), ((126, 0, 1650), (0, 5, 0)), ((121, 0, 23), (0, 0, 3)), ((0, 0, 10), (0, 0, 2)), ((126, 0, 1103), (0, 6, 0)), ((126, 0, 1102), (0, 7, 0)), ((126, 0, 1101), (0, 8, 0)), ((126, 0, 1100), (0, 9, 0)), ((126, 0, 553), (0, 10, 0)), ((126, 0, 552), (0, 11, 0)), ((126, 0, 551), (0, 12, 0)), ((126, 0, 550), (0, 13, 0))], [30, 61, 92, 123, 217, 218, 219, 220, 221, 222, 345, 346, 347, 348])
def lQb : List aQ := [lQb_0, lQb_1, lQb_2, lQb_3]
-- X11_status
def lM_181 : aM := []
-- X12_status
def lM_315 : aM := [(121, 1, 1)]
-- X11_top
def lM_187 : aM := []
-- X12_top
def lM_328 : aM := [(121, 1, 1)]
-- X11_bottom
def lM_147 : aM := []
-- X12_bottom
def lM_204 : aM := [(121, 1, 1)]
-- X11_tray
def lM_188 : aM := [(0, 0, 0), (2, 1, 2), (3, 0, 59), (4, 1, 2), (5, 0, 59), (6, 1, 2), (7, 0, 59), (8, 1, 2), (9, 0, 59)]
-- X12_tray
def lM_329 : aM := [(121, 0, 1), (122, 0, 3), (123, 0, 3), (124, 0, 239)]
-- X11_write
def lM_195 : aM := [(0, 0, 0), (3, 0, 59), (5, 0, 59), (7, 0, 59), (9, 0, 59)]
-- X12_write
def lM_339 : aM := [(121, 0, 1), (124, 0, 239)]
-- X11_read
def lM_175 : aM := [(0, 0, 0)]
-- X12_read
def lM_294 : aM := [(121, 0, 1)]
-- X11_pour
def lM_172 : aM := [(0, 0, 0), (3, 0, 59), (5, 0, 59), (7, 0, 59), (9, 0, 59)]
-- X12_pour
def lM_291 : aM := [(121, 0, 1), (124, 0, 239)]
-- X11_feed
def lM_155 : aM := [(10, 1, 1), (11, 0, 899)]
-- X12_feed
def lM_227 : aM := [(121, 1, 1), (121, 8, 8), (125, 0, 899)]
-- X11_land
def lM_162 : aM := [(0, 0, 0), (0, 7, 8), (10, 1, 1), (10, 6, 10), (12, 0, 900), (13, 0, 900), (14, 0, 900), (15, 0, 900), (16, 1, 2), (24, 0, 4), (25, 0, 47), (26, 0, 47), (27, 0, 143), (28, 0, 5), (29, 0, 5), (30, 0, 5), (31, 0, 5), (32, 0, 5), (33, 0, 5), (34, 0, 1), (39, 0, 4), (40, 0, 47), (41, 0, 47), (42, 0, 143), (43, 0, 5), (44, 0, 5), (45, 0, 5), (46, 0, 5), (47, 0, 5), (48, 0, 5), (49, 0, 1)]
-- X12_land
def lM_268 : aM := [(121, 0, 1), (121, 8, 19), (121, 24, 24), (126, 0, 549), (126, 2200, 2749), (128, 0, 5), (128, 24, 29)]
-- X11_orders
def lM_170 : aM := [(0, 0, 0), (10, 1, 1), (10, 6, 10), (12, 0, 900), (13, 0, 900), (14, 0, 900), (15, 0, 900), (17, 2, 2), (17, 4, 4), (18, 0, 1), (19, 0, 59), (20, 0, 59), (21, 0, 59), (22, 0, 59), (23, 0, 2), (34, 0, 1), (35, 0, 59), (36, 0, 59), (37, 0, 59), (38, 0, 59), (49, 0, 1), (50, 0, 59), (51, 0, 59), (52, 0, 59), (53, 0, 59)]
-- X12_orders
def lM_289 : aM := [(121, 0, 1), (121, 8, 19), (121, 25, 25), (126, 275, 546), (126, 2477, 2479), (126, 2483, 2488), (126, 2492, 2497), (126, 2501, 2506), (126, 2510, 2515), (126, 2519, 2524), (126, 2528, 2533), (126, 2537, 2542), (126, 2546, 2551), (126, 2555, 2560), (126, 2564, 2569), (126, 2573, 2578), (126, 2582, 2587), (126, 2591, 2596), (126, 2600, 2605), (126, 2609, 2614), (126, 2618, 2623), (126, 2627, 2632), (126, 2636, 2641), (126, 2645, 2650), (126, 2654, 2659), (126, 2663, 2668), (126, 2672, 2677), (126, 2681, 2686), (126, 2690, 2695), (126, 2699, 2704), (126, 2708, 2713), (126, 2717, 2722), (126, 2726, 2731), (126, 2735, 2740), (126, 2744, 2746)]
-- X11_fault
def lM_154 : aM := []
-- X12_fault
def lM_226 : aM := [(121, 1, 1)]
-- X11_many
def lM_163 : aM := [(0, 0, 0)]
-- X12_many
def lM_273 : aM := [(121, 0, 1)]
-- X11_ground
def lM_156 : aM := [(0, 0, 0)]
-- X12_ground
def lM_233 : aM := [(121, 0, 1)]
-- X11_cell
def lM_148 : aM := [(0, 0, 0)]
-- X12_cell
def lM_205 : aM := [(121, 0, 1)]
-- X11_shows
def lM_180 : aM := [(0, 0, 0)]
-- X12_shows
def lM_310 : aM := [(121, 0, 1)]
-- X11_company
def lM_151 : aM := [(0, 0, 0)]
-- X12_company
def lM_209 : aM := [(121, 0, 1)]
-- X11_bite
def lM_146 : aM := [(0, 0, 0), (24, 4, 4), (27, 0, 143), (39, 4, 4), (42, 0, 143)]
-- X12_bite
def lM_202 : aM := [(121, 0, 1), (126, 4, 4), (126, 101, 244)]
-- X11_mould
def lM_168 : aM := [(0, 0, 0), (27, 0, 143), (42, 0, 143)]
-- X12_mould
def lM_279 : aM := [(121, 0, 1), (126, 101, 244)]
-- X11_honey
def lM_160 : aM := [(0, 0, 0), (27, 0, 143), (42, 0, 143)]
-- X12_honey
def lM_239 : aM := [(121, 0, 1), (126, 101, 244)]
-- X11_clean
def lM_149 : aM := [(0, 0, 0), (27, 0, 143), (42, 0, 143)]
-- X12_clean
def lM_208 : aM := [(121, 0, 1), (126, 101, 244)]
-- X11_steam
def lM_182 : aM := [(0, 0, 0), (27, 0, 143), (42, 0, 143)]
-- X12_steam
def lM_316 : aM := [(121, 0, 1), (126, 101, 244)]
-- X11_unlike
def lM_190 : aM := [(0, 0, 0)]
-- X12_unlike
def lM_332 : aM := [(121, 0, 1)]
-- X11_count
def lM_152 : aM := [(0, 0, 0)]
-- X12_count
def lM_213 : aM := [(121, 0, 1)]
-- X11_hole
def lM_159 : aM := [(0, 0, 0)]
-- X12_hole
def lM_238 : aM := [(121, 0, 1), (129, 0, 47)]
-- X11_way
def lM_191 : aM := [(0, 0, 0), (0, 17, 17), (100, 3, 5), (100, 7, 8), (101, 0, 47), (102, 0, 47), (103, 0, 63), (104, 0, 47), (119, 0, 47)]
-- X12_way
def lM_334 : aM := [(121, 0, 1), (121, 29, 29), (121, 31, 31), (130, 0, 47), (131, 0, 48), (132, 0, 48)]
-- X11_wayAt
def lM_192 : aM := [(0, 0, 0)]
-- X12_wayAt
def lM_335 : aM := [(121, 0, 1)]
-- X11_march
def lM_164 : aM := [(0, 0, 0), (0, 18, 18), (30, 0, 5), (33, 0, 5), (45, 0, 5), (48, 0, 5), (100, 3, 5), (100, 7, 8), (101, 0, 47), (102, 0, 47), (103, 0, 63), (104, 0, 47)]
-- X12_march
def lM_274 : aM := [(121, 0, 1), (121, 31, 33), (126, 245, 250), (126, 269, 274), (130, 0, 47), (132, 0, 48)]
-- X11_stuck
def lM_183 : aM := [(0, 0, 0)]
-- X12_stuck
def lM_319 : aM := [(121, 0, 1)]
-- X11_truly
def lM_189 : aM := [(0, 0, 0), (100, 3, 5), (100, 7, 8), (101, 0, 47), (102, 0, 47), (103, 0, 63), (104, 0, 47)]
-- X12_truly
def lM_331 : aM := [(121, 0, 1), (121, 31, 31), (130, 0, 47), (132, 0, 48)]
-- X11_best
def lM_145 : aM := [(0, 0, 0), (100, 3, 5), (101, 0, 47), (102, 0, 47), (103, 0, 63)]
-- X12_best
def lM_201 : aM := [(121, 0, 1), (130, 0, 47)]
-- X11_hand
def lM_158 : aM := [(0, 0, 0), (32, 0, 5), (47, 0, 5)]
-- X12_hand
def lM_236 : aM := [(121, 0, 1), (126, 263, 268)]
-- X11_reach
def lM_174 : aM := [(0, 0, 0), (100, 3, 5), (100, 7, 8), (101, 0, 47), (102, 0, 47), (103, 0, 63), (104, 0, 47)]
-- X12_reach
def lM_293 : aM := [(121, 0, 1), (130, 0, 47)]
-- X11_seen
def lM_179 : aM := [(0, 0, 0), (100, 3, 5), (100, 7, 8), (101, 0, 47), (102, 0, 47), (103, 0, 63), (104, 0, 47)]
-- X12_seen
def lM_309 : aM := [(121, 0, 1), (121, 31, 31), (130, 0, 47), (132, 0, 48)]
-- X11_supper
def lM_184 : aM := [(0, 0, 0), (100, 3, 5), (100, 7, 8), (101, 0, 47), (102, 0, 47), (103, 0, 63), (104, 0, 47), (105, 1, 2), (105, 7, 10), (106, 0, 5), (107, 0, 5), (108, 0, 287), (109, 0, 287)]
-- X12_supper
def lM_321 : aM := [(121, 0, 1), (121, 34, 35), (126, 101, 244), (130, 0, 47), (133, 0, 3)]
-- X11_cut
def lM_153 : aM := [(0, 0, 0), (100, 3, 5), (100, 7, 8), (101, 0, 47), (102, 0, 47), (103, 0, 63), (104, 0, 47), (110, 0, 4), (110, 8, 8), (111, 0, 47), (112, 0, 95), (113, 0, 95)]
-- X12_cut_
def lM_217 : aM := [(121, 0, 1), (126, 101, 244), (130, 0, 47)]
-- X11_worth
def lM_194 : aM := [(0, 0, 0), (100, 3, 5), (100, 7, 8), (101, 0, 47), (102, 0, 47), (103, 0, 63), (104, 0, 47), (105, 1, 2), (106, 0, 5), (107, 0, 5), (108, 0, 287), (109, 0, 287)]
-- X12_worth
def lM_337 : aM := [(121, 0, 1), (126, 101, 244), (130, 0, 47)]
-- X11_mostWorth
def lM_167 : aM := [(0, 0, 0), (100, 3, 5), (100, 7, 8), (101, 0, 47), (102, 0, 47), (103, 0, 63), (104, 0, 47), (105, 1, 2), (106, 0, 5), (107, 0, 5), (108, 0, 287), (109, 0, 287)]
-- X12_mostWorth
def lM_278 : aM := [(121, 0, 1), (126, 101, 244), (130, 0, 47)]
-- X11_told
def lM_186 : aM := [(0, 0, 0)]
-- X12_told
def lM_327 : aM := [(121, 0, 1)]
-- X11_halves
def lM_157 : aM := [(0, 0, 0)]
-- X12_halves
def lM_235 : aM := [(121, 0, 1)]
-- X11_odds
def lM_169 : aM := [(0, 0, 2), (114, 0, 1), (115, 0, 47), (116, 0, 47)]
-- X12_odds
def lM_287 : aM := [(121, 0, 3), (134, 0, 47), (135, 0, 47)]
-- X11_mean
def lM_166 : aM := [(0, 0, 2), (114, 0, 1), (115, 0, 47), (116, 0, 47)]
-- X12_mean
def lM_277 : aM := [(121, 0, 3), (134, 0, 47), (135, 0, 47)]
-- X11_run
def lM_178 : aM := [(0, 0, 0), (24, 4, 4), (27, 0, 143), (30, 0, 5), (33, 0, 5), (39, 4, 4), (42, 0, 143), (45, 0, 5), (48, 0, 5), (100, 3, 5), (100, 7, 8), (101, 0, 47), (102, 0, 47), (103, 0, 63), (104, 0, 47), (117, 2, 11), (118, 0, 59), (120, 0, 3)]
-- X12_run
def lM_307 : aM := [(121, 0, 1), (121, 31, 31), (121, 33, 33), (121, 40, 47), (126, 4, 4), (126, 101, 250), (126, 269, 274), (130, 0, 47), (132, 0, 48), (136, 0, 3)]
-- X11_ran
def lM_173 : aM := [(0, 0, 0)]
-- X12_ran
def lM_292 : aM := [(121, 0, 1)]
-- X11_arrivals
def lM_143 : aM := [(0, 0, 2), (24, 0, 4), (25, 0, 47), (26, 0, 47), (27, 0, 143), (28, 0, 5), (29, 0, 5), (30, 0, 5), (31, 0, 5), (32, 0, 5), (33, 0, 5), (34, 0, 1), (35, 0, 59), (36, 0, 59), (37, 0, 59), (38, 0, 59), (39, 0, 4), (40, 0, 47), (41, 0, 47), (42, 0, 143), (43, 0, 5), (44, 0, 5), (45, 0, 5), (46, 0, 5), (47, 0, 5), (48, 0, 5), (49, 0, 1), (50, 0, 59), (51, 0, 59), (52, 0, 59), (53, 0, 59), (100, 3, 5), (100, 7, 8), (101, 0, 47), (102, 0, 47), (103, 0, 63), (104, 0, 47), (117, 2, 11), (118, 0, 59)]
-- X12_arrivals
def lM_196 : aM := [(121, 0, 3), (121, 31, 31), (121, 33, 33), (121, 41, 47), (126, 0, 274), (127, 0, 274), (130, 0, 47), (132, 0, 48)]
-- X11_mark
def lM_165 : aM := [(0, 0, 0), (0, 10, 10), (55, 0, 4), (56, 0, 47), (57, 0, 47), (58, 0, 143), (59, 0, 5), (60, 0, 5), (61, 0, 5), (62, 0, 5), (63, 0, 5), (64, 0, 5), (65, 0, 1), (66, 0, 59), (67, 0, 59), (68, 0, 59), (69, 0, 59), (70, 0, 4), (71, 0, 47), (72, 0, 47), (73, 0, 143), (74, 0, 5), (75, 0, 5), (76, 0, 5), (77, 0, 5), (78, 0, 5), (79, 0, 5), (80, 0, 1), (81, 0, 59), (82, 0, 59), (83, 0, 59), (84, 0, 59), (85, 0, 4), (86, 0, 47), (87, 0, 47), (88, 0, 143), (89, 0, 5), (90, 0, 5), (91, 0, 5), (92, 0, 5), (93, 0, 5), (94, 0, 5), (95, 0, 1), (96, 0, 59), (97, 0, 59), (98, 0, 59), (99, 0, 59)]
-- X12_mark
def lM_276 : aM := [(121, 0, 1), (121, 23, 23), (126, 550, 2199), (128, 6, 23)]
-- X11_back
def lM_144 : aM := [(0, 0, 0), (0, 10, 10), (24, 0, 4), (25, 0, 47), (26, 0, 47), (27, 0, 143), (28, 0, 5), (29, 0, 5), (30, 0, 5), (31, 0, 5), (32, 0, 5), (33, 0, 5), (34, 0, 1), (35, 0, 59), (36, 0, 59), (37, 0, 59), (38, 0, 59), (39, 0, 4), (40, 0, 47), (41, 0, 47), (42, 0, 143), (43, 0, 5), (44, 0, 5), (45, 0, 5), (46, 0, 5), (47, 0, 5), (48, 0, 5), (49, 0, 1), (50, 0, 59), (51, 0, 59), (52, 0, 59), (53, 0, 59)]
-- X12_back
def lM_199 : aM := [(121, 0, 1), (121, 23, 23), (126, 0, 549), (128, 0, 5)]
theorem lAnd {a b : Bool} (h : (a && b) = true) : a = true ∧ b = true := by
  rw [Bool.and_eq_true] at h
  exact h
theorem lckg_0 : (a_all (lCk (aG0 aG1) sLaw 614 181 0 [] 0 lM_181 lQs) lQs && (a_all (lCk (aG0 aG1) sLaw 614 315 121 [] 0 lM_315 lQs) lQs && (a_all (lCk (aG0 aG1) sLaw 614 187 0 [] 1 lM_187 lQs) lQs && (a_all (lCk (aG0 aG1) sLaw 614 328 121 [] 1 lM_328 lQs) lQs && (a_all (lCk (aG0 aG1) sLaw 614 147 0 [] 1 lM_147 lQs) lQs && (a_all (lCk (aG0 aG1) sLaw 614 204 121 [] 1 lM_204 lQs) lQs && (a_all (lCk (aG0 aG1) sLaw 614 188 0 [0, 0, 0] 0 lM_188 lQs) lQs && (a_all (lCk (aG0 aG1) sLaw 614 329 121 [0, 0, 0] 0 lM_329 lQs) lQs && (a_all (lCk (aG0 aG1) sLaw 614 195 0 [0, 0, 1] 0 lM_195 lQs) lQs && (a_all (lCk (aG0 aG1) sLaw 614 339 121 [0, 0, 1] 0 lM_339 lQs) lQs && (a_all (lCk (aG0 aG1) sLaw 614 175 0 [0, 0] 1 lM_175 lQs) lQs && (a_all (lCk (aG0 aG1) sLaw 614 294 121 [0, 0] 1 lM_294 lQs) lQs && (a_all (lCk (aG0 aG1) sLaw 614 172 0 [0, 0, 0, 0, 0] 0 lM_172 lQs) lQs && (a_all (lCk (aG0 aG1) sLaw 614 291 121 [0, 0, 0, 0, 0] 0 lM_291 lQs) lQs)))))))))))))) = true := by decide +kernel
theorem lck_181 : a_all (lCk (aG0 aG1) sLaw 614 181 0 [] 0 lM_181 lQs) lQs = true := (lAnd lckg_0).1
theorem lck_315 : a_all (lCk (aG0 aG1) sLaw 614 315 121 [] 0 lM_315 lQs) lQs = true := (lAnd (lAnd lckg_0).2).1
theorem lck_187 : a_all (lCk (aG0 aG1) sLaw 614 187 0 [] 1 lM_187 lQs) lQs = true := (lAnd (lAnd (lAnd lckg_0).2).2).1
theorem lck_328 : a_all (lCk (aG0 aG1) sLaw 614 328 121 [] 1 lM_328 lQs) lQs = true := (lAnd (lAnd (lAnd (lAnd lckg_0).2).2).2).1
theorem lck_147 : a_all (lCk (aG0 aG1) sLaw 614 147 0 [] 1 lM_147 lQs) lQs = true := (lAnd (lAnd (lAnd (lAnd (lAnd lckg_0).2).2).2).2).1
theorem lck_204 : a_all (lCk (aG0 aG1) sLaw 614 204 121 [] 1 lM_204 lQs) lQs = true := (lAnd (lAnd (lAnd (lAnd (lAnd (lAnd lckg_0).2).2).2).2).2).1
theorem lck_188 : a_all (lCk (aG0 aG1) sLaw 614 188 0 [0, 0, 0] 0 lM_188 lQs) lQs = true := (lAnd (lAnd (lAnd (lAnd (lAnd (lAnd (lAnd lckg_0).2).2).2).2).2).2).1
theorem lck_329 : a_all (lCk (aG0 aG1) sLaw 614 329 121 [0, 0, 0] 0 lM_329 lQs) lQs = true := (lAnd (lAnd (lAnd (lAnd (lAnd (lAnd (lAnd (lAnd lckg_0).2).2).2).2).2).2).2).1
theorem lck_195 : a_all (lCk (aG0 aG1) sLaw 614 195 0 [0, 0, 1] 0 lM_195 lQs) lQs = true := (lAnd (lAnd (lAnd (lAnd (lAnd (lAnd (lAnd (lAnd (lAnd lckg_0).2).2).2).2).2).2).2).2).1
theorem lck_339 : a_all (lCk (aG0 aG1) sLaw 614 339 121 [0, 0, 1] 0 lM_339 lQs) lQs = true := (lAnd (lAnd (lAnd (lAnd (lAnd (lAnd (lAnd (lAnd (lAnd (lAnd lckg_0).2).2).2).2).2).2).2).2).2).1
theorem lck_175 : a_all (lCk (aG0 aG1) sLaw 614 175 0 [0, 0] 1 lM_175 lQs) lQs = true := (lAnd (lAnd (lAnd (lAnd (lAnd (lAnd (lAnd (lAnd (lAnd (lAnd (lAnd lckg_0).2).2).2).2).2).2).2).2).2).2).1
theorem lck_294 : a_all (lCk (aG0 aG1) sLaw 614 294 121 [0, 0] 1 lM_294 lQs) lQs = true := (lAnd (lAnd (lAnd (lAnd (lAnd (lAnd (lAnd (lAnd (lAnd (lAnd (lAnd (lAnd lckg_0).2).2).2).2).2).2).2).2).2).2).2).1
theorem lck_172 : a_all (lCk (aG0 aG1) sLaw 614 172 0 [0, 0, 0, 0, 0] 0 lM_172 lQs) lQs = true := (lAnd (lAnd (lAnd (lAnd (lAnd (lAnd (lAnd (lAnd (lAnd (lAnd (lAnd (lAnd (lAnd lckg_0).2).2).2).2).2).2).2).2).2).2).2).2).1
theorem lck_291 : a_all (lCk (aG0 aG1) sLaw 614 291 121 [0, 0, 0, 0, 0] 0 lM_291 lQs) lQs = true := (lAnd (lAnd (lAnd (lAnd (lAnd (lAnd (lAnd (lAnd (lAnd (lAnd (lAnd (lAnd (lAnd lckg_0).2).2).2).2).2).2).2).2).2).2).2).2).2
theorem lckg_1 : (a_all (lCk (aG0 aG1) sLaw 614 155 0 [0, 0, 0, 0, 0] 0 lM_155 lQs) lQs && (a_all (lCk (aG0 aG1) sLaw 614 227 121 [0, 0, 0, 0, 0] 0 lM_227 lQs) lQs && (a_all (lCk (aG0 aG1) sLaw 614 162 0 [0] 0 lM_162 lQs) lQs && (a_all (lCk (aG0 aG1) sLaw 614 268 121 [0] 0 lM_268 lQs) lQs && (a_all (lCk (aG0 aG1) sLaw 614 170 0 [0] 0 lM_170 lQs) lQs && (a_all (lCk (aG0 aG1) sLaw 614 289 121 [0] 0 lM_289 lQs) lQs && (a_all (lCk (aG0 aG1) sLaw 614 154 0 [0] 0 lM_154 lQs) lQs && (a_all (lCk (aG0 aG1) sLaw 614 226 121 [0] 0 lM_226 lQs) lQs && (a_all (lCk (aG0 aG1) sLaw 614 163 0 [0] 0 lM_163 lQs) lQs && (a_all (lCk (aG0 aG1) sLaw 614 273 121 [0] 0 lM_273 lQs) lQs && (a_all (lCk (aG0 aG1) sLaw 614 156 0 [0, 0, 0] 0 lM_156 lQs) lQs && (a_all (lCk (aG0 aG1) sLaw 614 233 121 [0, 0, 0] 0 lM_233 lQs) lQs && (a_all (lCk (aG0 aG1) sLaw 614 148 0 [0, 0, 0] 0 lM_148 lQs) lQs && (a_all (lCk (aG0 aG1) sLaw 614 205 121 [0, 0, 0] 0 lM_205 lQs) lQs)))))))))))))) = true := by decide +kernel
theorem lck_155 : a_all (lCk (aG0 aG1) sLaw 614 155 0 [0, 0, 0, 0, 0] 0 lM_155 lQs) lQs = true := (lAnd lckg_1).1
theorem lck_227 : a_all (lCk (aG0 aG1) sLaw 614 227 121 [0, 0, 0, 0, 0] 0 lM_227 lQs) lQs = true := (lAnd (lAnd lckg_1).2).1
theorem lck_162 : a_all (lCk (aG0 aG1) sLaw 614 162 0 [0] 0 lM_162 lQs) lQs = true := (lAnd (lAnd (lAnd lckg_1).2).2).1
theorem lck_268 : a_all (lCk (aG0 aG1) sLaw 614 268 121 [0] 0 lM_268 lQs) lQs = true := (lAnd (lAnd (lAnd (lAnd lckg_1).2).2).2).1
theorem lck_170 : a_all (lCk (aG0 aG1) sLaw 614 170 0 [0] 0 lM_170 lQs) lQs = true := (lAnd (lAnd (lAnd (lAnd (lAnd lckg_1).2).2).2).2).1
theorem lck_289 : a_all (lCk (aG0 aG1) sLaw 614 289 121 [0] 0 lM_289 lQs) lQs = true := (lAnd (lAnd (lAnd (lAnd (lAnd (lAnd lckg_1).2).2).2).2).2).1
theorem lck_154 : a_all (lCk (aG0 aG1) sLaw 614 154 0 [0] 0 lM_154 lQs) lQs = true := (lAnd (lAnd (lAnd (lAnd (lAnd (lAnd (lAnd lckg_1).2).2).2).2).2).2).1
theorem lck_226 : a_all (lCk (aG0 aG1) sLaw 614 226 121 [0] 0 lM_226 lQs) lQs = true := (lAnd (lAnd (lAnd (lAnd (lAnd (lAnd (lAnd (lAnd lckg_1).2).2).2).2).2).2).2).1
theorem lck_163 : a_all (lCk (aG0 aG1) sLaw 614 163 0 [0] 0 lM_163 lQs) lQs = true := (lAnd (lAnd (lAnd (lAnd (lAnd (lAnd (lAnd (lAnd (lAnd lckg_1).2).2).2).2).2).2).2).2).1
theorem lck_273 : a_all (lCk (aG0 aG1) sLaw 614 273 121 [0] 0 lM_273 lQs) lQs = true := (lAnd (lAnd (lAnd (lAnd (lAnd (lAnd (lAnd (lAnd (lAnd (lAnd lckg_1).2).2).2).2).2).2).2).2).2).1
theorem lck_156 : a_all (lCk (aG0 aG1) sLaw 614 156 0 [0, 0, 0] 0 lM_156 lQs) lQs = true := (lAnd (lAnd (lAnd (lAnd (lAnd (lAnd (lAnd (lAnd (lAnd (lAnd (lAnd lckg_1).2).2).2).2).2).2).2).2).2).2).1
theorem lck_233 : a_all (lCk (aG0 aG1) sLaw 614 233 121 [0, 0, 0] 0 lM_233 lQs) lQs = true := (lAnd (lAnd (lAnd (lAnd (lAnd (lAnd (lAnd (lAnd (lAnd (lAnd (lAnd (lAnd lckg_1).2).2).2).2).2).2).2).2).2).2).2).1
theorem lck_148 : a_all (lCk (aG0 aG1) sLaw 614 148 0 [0, 0, 0] 0 lM_148 lQs) lQs = true := (lAnd (lAnd (lAnd (lAnd (lAnd (lAnd (lAnd (lAnd (lAnd (lAnd (lAnd (lAnd (lAnd lckg_1).2).2).2).2).2).2).2).2).2).2).2).2).1
theorem lck_205 : a_all (lCk (aG0 aG1) sLaw 614 205 121 [0, 0, 0] 0 lM_205 lQs) lQs = true := (lAnd (lAnd (lAnd (lAnd (lAnd (lAnd (lAnd (lAnd (lAnd (lAnd (lAnd (lAnd (lAnd lckg_1).2).2).2).2).2).2).2).2).2).2).2).2).2
theorem lckg_2 : (a_all (lCk (aG0 aG1) sLaw 614 180 0 [0, 0, 0] 0 lM_180 lQs) lQs && (a_all (lCk (aG0 aG1) sLaw 614 310 121 [0, 0, 0] 0 lM_310 lQs) lQs && (a_all (lCk (aG0 aG1) sLaw 614 151 0 [0, 0] 0 lM_151 lQs) lQs && (a_all (lCk (aG0 aG1) sLaw 614 209 121 [0, 0] 0 lM_209 lQs) lQs && (a_all (lCk (aG0 aG1) sLaw 614 146 0 [0, 0, 0] 0 lM_146 lQs) lQs && (a_all (lCk (aG0 aG1) sLaw 614 202 121 [0, 0, 0] 0 lM_202 lQs) lQs && (a_all (lCk (aG0 aG1) sLaw 614 168 0 [0, 0, 0] 0 lM_168 lQs) lQs && (a_all (lCk (aG0 aG1) sLaw 614 279 121 [0, 0, 0] 0 lM_279 lQs) lQs && (a_all (lCk (aG0 aG1) sLaw 614 160 0 [0, 0, 0] 0 lM_160 lQs) lQs && (a_all (lCk (aG0 aG1) sLaw 614 239 121 [0, 0, 0] 0 lM_239 lQs) lQs && (a_all (lCk (aG0 aG1) sLaw 614 149 0 [0, 0, 0] 0 lM_149 lQs) lQs && (a_all (lCk (aG0 aG1) sLaw 614 208 121 [0, 0, 0] 0 lM_208 lQs) lQs && (a_all (lCk (aG0 aG1) sLaw 614 182 0 [0, 0] 0 lM_182 lQs) lQs && (a_all (lCk (aG0 aG1) sLaw 614 316 121 [0, 0] 0 lM_316 lQs) lQs)))))))))))))) = true := by decide +kernel
theorem lck_180 : a_all (lCk (aG0 aG1) sLaw 614 180 0 [0, 0, 0] 0 lM_180 lQs) lQs = true := (lAnd lckg_2).1
theorem lck_310 : a_all (lCk (aG0 aG1) sLaw 614 310 121 [0, 0, 0] 0 lM_310 lQs) lQs = true := (lAnd (lAnd lckg_2).2).1
theorem lck_151 : a_all (lCk (aG0 aG1) sLaw 614 151 0 [0, 0] 0 lM_151 lQs) lQs = true := (lAnd (lAnd (lAnd lckg_2).2).2).1
theorem lck_209 : a_all (lCk (aG0 aG1) sLaw 614 209 121 [0, 0] 0 lM_209 lQs) lQs = true := (lAnd (lAnd (lAnd (lAnd lckg_2).2).2).2).1
theorem lck_146 : a_all (lCk (aG0 aG1) sLaw 614 146 0 [0, 0, 0] 0 lM_146 lQs) lQs = true := (lAnd (lAnd (lAnd (lAnd (lAnd lckg_2).2).2).2).2).1
theorem lck_202 : a_all (lCk (aG0 aG1) sLaw 614 202 121 [0, 0, 0] 0 lM_202 lQs) lQs = true := (lAnd (lAnd (lAnd (lAnd (lAnd (lAnd lckg_2).2).2).2).2).2).1
theorem lck_168 : a_all (lCk (aG0 aG1) sLaw 614 168 0 [0, 0, 0] 0 lM_168 lQs) lQs = true := (lAnd (lAnd (lAnd (lAnd (lAnd (lAnd (lAnd lckg_2).2).2).2).2).2).2).1
theorem lck_279 : a_all (lCk (aG0 aG1) sLaw 614 279 121 [0, 0, 0] 0 lM_279 lQs) lQs = true := (lAnd (lAnd (lAnd (lAnd (lAnd (lAnd (lAnd (lAnd lckg_2).2).2).2).2).2).2).2).1
theorem lck_160 : a_all (lCk (aG0 aG1) sLaw 614 160 0 [0, 0, 0] 0 lM_160 lQs) lQs = true := (lAnd (lAnd (lAnd (lAnd (lAnd (lAnd (lAnd (lAnd (lAnd lckg_2).2).2).2).2).2).2).2).2).1
theorem lck_239 : a_all (lCk (aG0 aG1) sLaw 614 239 121 [0, 0, 0] 0 lM_239 lQs) lQs = true := (lAnd (lAnd (lAnd (lAnd (lAnd (lAnd (lAnd (lAnd (lAnd (lAnd lckg_2).2).2).2).2).2).2).2).2).2).1
theorem lck_149 : a_all (lCk (aG0 aG1) sLaw 614 149 0 [0, 0, 0] 0 lM_149 lQs) lQs = true := (lAnd (lAnd (lAnd (lAnd (lAnd (lAnd (lAnd (lAnd (lAnd (lAnd (lAnd lckg_2).2).2).2).2).2).2).2).2).2).2).1
theorem lck_208 : a_all (lCk (aG0 aG1) sLaw 614 208 121 [0, 0, 0] 0 lM_208 lQs) lQs = true := (lAnd (lAnd (lAnd (lAnd (lAnd (lAnd (lAnd (lAnd (lAnd (lAnd (lAnd (lAnd lckg_2).2).2).2).2).2).2).2).2).2).2).2).1
theorem lck_182 : a_all (lCk (aG0 aG1) sLaw 614 182 0 [0, 0] 0 lM_182 lQs) lQs = true := (lAnd (lAnd (lAnd (lAnd (lAnd (lAnd (lAnd (lAnd (lAnd (lAnd (lAnd (lAnd (lAnd lckg_2).2).2).2).2).2).2).2).2).2).2).2).2).1
theorem lck_316 : a_all (lCk (aG0 aG1) sLaw 614 316 121 [0, 0] 0 lM_316 lQs) lQs = true := (lAnd (lAnd (lAnd (lAnd (lAnd (lAnd (lAnd (lAnd (lAnd (lAnd (lAnd (lAnd (lAnd lckg_2).2).2).2).2).2).2).2).2).2).2).2).2).2
theorem lckg_3 : (a_all (lCk (aG0 aG1) sLaw 614 190 0 [0, 0] 0 lM_190 lQs) lQs && (a_all (lCk (aG0 aG1) sLaw 614 332 121 [0, 0] 0 lM_332 lQs) lQs && (a_all (lCk (aG0 aG1) sLaw 614 152 0 [0, 0] 0 lM_152 lQs) lQs && (a_all (lCk (aG0 aG1) sLaw 614 213 121 [0, 0] 0 lM_213 lQs) lQs && (a_all (lCk (aG0 aG1) sLaw 614 159 0 [0] 0 lM_159 lQs) lQs && (a_all (lCk (aG0 aG1) sLaw 614 238 121 [0] 0 lM_238 lQs) lQs && (a_all (lCk (aG0 aG1) sLaw 614 191 0 [0] 0 lM_191 lQs) lQs && (a_all (lCk (aG0 aG1) sLaw 614 334 121 [0] 0 lM_334 lQs) lQs && (a_all (lCk (aG0 aG1) sLaw 614 192 0 [0, 0] 0 lM_192 lQs) lQs && (a_all (lCk (aG0 aG1) sLaw 614 335 121 [0, 0] 0 lM_335 lQs) lQs && (a_all (lCk (aG0 aG1) sLaw 614 164 0 [0] 0 lM_164 lQs) lQs && (a_all (lCk (aG0 aG1) sLaw 614 274 121 [0] 0 lM_274 lQs) lQs && (a_all (lCk (aG0 aG1) sLaw 614 183 0 [] 0 lM_183 lQs) lQs && (a_all (lCk (aG0 aG1) sLaw 614 319 121 [] 0 lM_319 lQs) lQs)))))))))))))) = true := by decide +kernel
theorem lck_190 : a_all (lCk (aG0 aG1) sLaw 614 190 0 [0, 0] 0 lM_190 lQs) lQs = true := (lAnd lckg_3).1
theorem lck_332 : a_all (lCk (aG0 aG1) sLaw 614 332 121 [0, 0] 0 lM_332 lQs) lQs = true := (lAnd (lAnd lckg_3).2).1
theorem lck_152 : a_all (lCk (aG0 aG1) sLaw 614 152 0 [0, 0] 0 lM_152 lQs) lQs = true := (lAnd (lAnd (lAnd lckg_3).2).2).1
theorem lck_213 : a_all (lCk (aG0 aG1) sLaw 614 213 121 [0, 0] 0 lM_213 lQs) lQs = true := (lAnd (lAnd (lAnd (lAnd lckg_3).2).2).2).1
theorem lck_159 : a_all (lCk (aG0 aG1) sLaw 614 159 0 [0] 0 lM_159 lQs) lQs = true := (lAnd (lAnd (lAnd (lAnd (lAnd lckg_3).2).2).2).2).1
theorem lck_238 : a_all (lCk (aG0 aG1) sLaw 614 238 121 [0] 0 lM_238 lQs) lQs = true := (lAnd (lAnd (lAnd (lAnd (lAnd (lAnd lckg_3).2).2).2).2).2).1
theorem lck_191 : a_all (lCk (aG0 aG1) sLaw 614 191 0 [0] 0 lM_191 lQs) lQs = true := (lAnd (lAnd (lAnd (lAnd (lAnd (lAnd (lAnd lckg_3).2).2).2).2).2).2).1
theorem lck_334 : a_all (lCk (aG0 aG1) sLaw 614 334 121 [0] 0 lM_334 lQs) lQs = true := (lAnd (lAnd (lAnd (lAnd (lAnd (lAnd (lAnd (lAnd lckg_3).2).2).2).2).2).2).2).1
theorem lck_192 : a_all (lCk (aG0 aG1) sLaw 614 192 0 [0, 0] 0 lM_192 lQs) lQs = true := (lAnd (lAnd (lAnd (lAnd (lAnd (lAnd (lAnd (lAnd (lAnd lckg_3).2).2).2).2).2).2).2).2).1
theorem lck_335 : a_all (lCk (aG0 aG1) sLaw 614 335 121 [0, 0] 0 lM_335 lQs) lQs = true := (lAnd (lAnd (lAnd (lAnd (lAnd (lAnd (lAnd (lAnd (lAnd (lAnd lckg_3).2).2).2).2).2).2).2).2).2).1
theorem lck_164 : a_all (lCk (aG0 aG1) sLaw 614 164 0 [0] 0 lM_164 lQs) lQs = true := (lAnd (lAnd (lAnd (lAnd (lAnd (lAnd (lAnd (lAnd (lAnd (lAnd (lAnd lckg_3).2).2).2).2).2).2).2).2).2).2).1
theorem lck_274 : a_all (lCk (aG0 aG1) sLaw 614 274 121 [0] 0 lM_274 lQs) lQs = true := (lAnd (lAnd (lAnd (lAnd (lAnd (lAnd (lAnd (lAnd (lAnd (lAnd (lAnd (lAnd lckg_3).2).2).2).2).2).2).2).2).2).2).2).1
theorem lck_183 : a_all (lCk (aG0 aG1) sLaw 614 183 0 [] 0 lM_183 lQs) lQs = true := (lAnd (lAnd (lAnd (lAnd (lAnd (lAnd (lAnd (lAnd (lAnd (lAnd (lAnd (lAnd (lAnd lckg_3).2).2).2).2).2).2).2).2).2).2).2).2).1
theorem lck_319 : a_all (lCk (aG0 aG1) sLaw 614 319 121 [] 0 lM_319 lQs) lQs = true := (lAnd (lAnd (lAnd (lAnd (lAnd (lAnd (lAnd (lAnd (lAnd (lAnd (lAnd (lAnd (lAnd lckg_3).2).2).2).2).2).2).2).2).2).2).2).2).2
theorem lckg_4 : (a_all (lCk (aG0 aG1) sLaw 614 189 0 [0] 0 lM_189 lQs) lQs && (a_all (lCk (aG0 aG1) sLaw 614 331 121 [0] 0 lM_331 lQs) lQs && (a_all (lCk (aG0 aG1) sLaw 614 145 0 [0] 0 lM_145 lQs) lQs && (a_all (lCk (aG0 aG1) sLaw 614 201 121 [0] 0 lM_201 lQs) lQs && (a_all (lCk (aG0 aG1) sLaw 614 158 0 [0, 0] 0 lM_158 lQs) lQs && (a_all (lCk (aG0 aG1) sLaw 614 236 121 [0, 0] 0 lM_236 lQs) lQs && (a_all (lCk (aG0 aG1) sLaw 614 174 0 [] 0 lM_174 lQs) lQs && (a_all (lCk (aG0 aG1) sLaw 614 293 121 [] 0 lM_293 lQs) lQs && (a_all (lCk (aG0 aG1) sLaw 614 179 0 [0, 0] 0 lM_179 lQs) lQs && (a_all (lCk (aG0 aG1) sLaw 614 309 121 [0, 0] 0 lM_309 lQs) lQs && (a_all (lCk (aG0 aG1) sLaw 614 184 0 [0, 0, 0] 0 lM_184 lQs) lQs && (a_all (lCk (aG0 aG1) sLaw 614 321 121 [0, 0, 0] 0 lM_321 lQs) lQs && (a_all (lCk (aG0 aG1) sLaw 614 153 0 [0] 0 lM_153 lQs) lQs && (a_all (lCk (aG0 aG1) sLaw 614 217 121 [0] 0 lM_217 lQs) lQs)))))))))))))) = true := by decide +kernel
theorem lck_189 : a_all (lCk (aG0 aG1) sLaw 614 189 0 [0] 0 lM_189 lQs) lQs = true := (lAnd lckg_4).1
theorem lck_331 : a_all (lCk (aG0 aG1) sLaw 614 331 121 [0] 0 lM_331 lQs) lQs = true := (lAnd (lAnd lckg_4).2).1
theorem lck_145 : a_all (lCk (aG0 aG1) sLaw 614 145 0 [0] 0 lM_145 lQs) lQs = true := (lAnd (lAnd (lAnd lckg_4).2).2).1
theorem lck_201 : a_all (lCk (aG0 aG1) sLaw 614 201 121 [0] 0 lM_201 lQs) lQs = true := (lAnd (lAnd (lAnd (lAnd lckg_4).2).2).2).1
theorem lck_158 : a_all (lCk (aG0 aG1) sLaw 614 158 0 [0, 0] 0 lM_158 lQs) lQs = true := (lAnd (lAnd (lAnd (lAnd (lAnd lckg_4).2).2).2).2).1
theorem lck_236 : a_all (lCk (aG0 aG1) sLaw 614 236 121 [0, 0] 0 lM_236 lQs) lQs = true := (lAnd (lAnd (lAnd (lAnd (lAnd (lAnd lckg_4).2).2).2).2).2).1
theorem lck_174 : a_all (lCk (aG0 aG1) sLaw 614 174 0 [] 0 lM_174 lQs) lQs = true := (lAnd (lAnd (lAnd (lAnd (lAnd (lAnd (lAnd lckg_4).2).2).2).2).2).2).1
theorem lck_293 : a_all (lCk (aG0 aG1) sLaw 614 293 121 [] 0 lM_293 lQs) lQs = true := (lAnd (lAnd (lAnd (lAnd (lAnd (lAnd (lAnd (lAnd lckg_4).2).2).2).2).2).2).2).1
theorem lck_179 : a_all (lCk (aG0 aG1) sLaw 614 179 0 [0, 0] 0 lM_179 lQs) lQs = true := (lAnd (lAnd (lAnd (lAnd (lAnd (lAnd (lAnd (lAnd (lAnd lckg_4).2).2).2).2).2).2).2).2).1
theorem lck_309 : a_all (lCk (aG0 aG1) sLaw 614 309 121 [0, 0] 0 lM_309 lQs) lQs = true := (lAnd (lAnd (lAnd (lAnd (lAnd (lAnd (lAnd (lAnd (lAnd (lAnd lckg_4).2).2).2).2).2).2).2).2).2).1
theorem lck_184 : a_all (lCk (aG0 aG1) sLaw 614 184 0 [0, 0, 0] 0 lM_184 lQs) lQs = true := (lAnd (lAnd (lAnd (lAnd (lAnd (lAnd (lAnd (lAnd (lAnd (lAnd (lAnd lckg_4).2).2).2).2).2).2).2).2).2).2).1
theorem lck_321 : a_all (lCk (aG0 aG1) sLaw 614 321 121 [0, 0, 0] 0 lM_321 lQs) lQs = true := (lAnd (lAnd (lAnd (lAnd (lAnd (lAnd (lAnd (lAnd (lAnd (lAnd (lAnd (lAnd lckg_4).2).2).2).2).2).2).2).2).2).2).2).1
theorem lck_153 : a_all (lCk (aG0 aG1) sLaw 614 153 0 [0] 0 lM_153 lQs) lQs = true := (lAnd (lAnd (lAnd (lAnd (lAnd (lAnd (lAnd (lAnd (lAnd (lAnd (lAnd (lAnd (lAnd lckg_4).2).2).2).2).2).2).2).2).2).2).2).2).1
theorem lck_217 : a_all (lCk (aG0 aG1) sLaw 614 217 121 [0] 0 lM_217 lQs) lQs = true := (lAnd (lAnd (lAnd (lAnd (lAnd (lAnd (lAnd (lAnd (lAnd (lAnd (lAnd (lAnd (lAnd lckg_4).2).2).2).2).2).2).2).2).2).2).2).2).2
theorem lckg_5 : (a_all (lCk (aG0 aG1) sLaw 614 194 0 [0, 0, 0] 0 lM_194 lQs) lQs && (a_all (lCk (aG0 aG1) sLaw 614 337 121 [0, 0, 0] 0 lM_337 lQs) lQs && (a_all (lCk (aG0 aG1) sLaw 614 167 0 [0, 0] 0 lM_167 lQs) lQs && (a_all (lCk (aG0 aG1) sLaw 614 278 121 [0, 0] 0 lM_278 lQs) lQs && (a_all (lCk (aG0 aG1) sLaw 614 186 0 [0, 0] 1 lM_186 lQs) lQs && (a_all (lCk (aG0 aG1) sLaw 614 327 121 [0, 0] 1 lM_327 lQs) lQs && (a_all (lCk (aG0 aG1) sLaw 614 157 0 [0, 0, 0] 0 lM_157 lQs) lQs && (a_all (lCk (aG0 aG1) sLaw 614 235 121 [0, 0, 0] 0 lM_235 lQs) lQs && (a_all (lCk (aG0 aG1) sLaw 614 169 0 [0, 0, 0, 0, 0] 0 lM_169 lQs) lQs && (a_all (lCk (aG0 aG1) sLaw 614 287 121 [0, 0, 0, 0, 0] 0 lM_287 lQs) lQs && (a_all (lCk (aG0 aG1) sLaw 614 166 0 [0, 0, 0] 0 lM_166 lQs) lQs && (a_all (lCk (aG0 aG1) sLaw 614 277 121 [0, 0, 0] 0 lM_277 lQs) lQs && (a_all (lCk (aG0 aG1) sLaw 614 178 0 [0] 0 lM_178 lQs) lQs && (a_all (lCk (aG0 aG1) sLaw 614 307 121 [0] 0 lM_307 lQs) lQs)))))))))))))) = true := by decide +kernel
theorem lck_194 : a_all (lCk (aG0 aG1) sLaw 614 194 0 [0, 0, 0] 0 lM_194 lQs) lQs = true := (lAnd lckg_5).1
theorem lck_337 : a_all (lCk (aG0 aG1) sLaw 614 337 121 [0, 0, 0] 0 lM_337 lQs) lQs = true := (lAnd (lAnd lckg_5).2).1
theorem lck_167 : a_all (lCk (aG0 aG1) sLaw 614 167 0 [0, 0] 0 lM_167 lQs) lQs = true := (lAnd (lAnd (lAnd lckg_5).2).2).1
theorem lck_278 : a_all (lCk (aG0 aG1) sLaw 614 278 121 [0, 0] 0 lM_278 lQs) lQs = true := (lAnd (lAnd (lAnd (lAnd lckg_5).2).2).2).1
theorem lck_186 : a_all (lCk (aG0 aG1) sLaw 614 186 0 [0, 0] 1 lM_186 lQs) lQs = true := (lAnd (lAnd (lAnd (lAnd (lAnd lckg_5).2).2).2).2).1
theorem lck_327 : a_all (lCk (aG0 aG1) sLaw 614 327 121 [0, 0] 1 lM_327 lQs) lQs = true := (lAnd (lAnd (lAnd (lAnd (lAnd (lAnd lckg_5).2).2).2).2).2).1
theorem lck_157 : a_all (lCk (aG0 aG1) sLaw 614 157 0 [0, 0, 0] 0 lM_157 lQs) lQs = true := (lAnd (lAnd (lAnd (lAnd (lAnd (lAnd (lAnd lckg_5).2).2).2).2).2).2).1
theorem lck_235 : a_all (lCk (aG0 aG1) sLaw 614 235 121 [0, 0, 0] 0 lM_235 lQs) lQs = true := (lAnd (lAnd (lAnd (lAnd (lAnd (lAnd (lAnd (lAnd lckg_5).2).2).2).2).2).2).2).1
theorem lck_169 : a_all (lCk (aG0 aG1) sLaw 614 169 0 [0, 0, 0, 0, 0] 0 lM_169 lQs) lQs = true := (lAnd (lAnd (lAnd (lAnd (lAnd (lAnd (lAnd (lAnd (lAnd lckg_5).2).2).2).2).2).2).2).2).1
theorem lck_287 : a_all (lCk (aG0 aG1) sLaw 614 287 121 [0, 0, 0, 0, 0] 0 lM_287 lQs) lQs = true := (lAnd (lAnd (lAnd (lAnd (lAnd (lAnd (lAnd (lAnd (lAnd (lAnd lckg_5).2).2).2).2).2).2).2).2).2).1
theorem lck_166 : a_all (lCk (aG0 aG1) sLaw 614 166 0 [0, 0, 0] 0 lM_166 lQs) lQs = true := (lAnd (lAnd (lAnd (lAnd (lAnd (lAnd (lAnd (lAnd (lAnd (lAnd (lAnd lckg_5).2).2).2).2).2).2).2).2).2).2).1
theorem lck_277 : a_all (lCk (aG0 aG1) sLaw 614 277 121 [0, 0, 0] 0 lM_277 lQs) lQs = true := (lAnd (lAnd (lAnd (lAnd (lAnd (lAnd (lAnd (lAnd (lAnd (lAnd (lAnd (lAnd lckg_5).2).2).2).2).2).2).2).2).2).2).2).1
theorem lck_178 : a_all (lCk (aG0 aG1) sLaw 614 178 0 [0] 0 lM_178 lQs) lQs = true := (lAnd (lAnd (lAnd (lAnd (lAnd (lAnd (lAnd (lAnd (lAnd (lAnd (lAnd (lAnd (lAnd lckg_5).2).2).2).2).2).2).2).2).2).2).2).2).1
theorem lck_307 : a_all (lCk (aG0 aG1) sLaw 614 307 121 [0] 0 lM_307 lQs) lQs = true := (lAnd (lAnd (lAnd (lAnd (lAnd (lAnd (lAnd (lAnd (lAnd (lAnd (lAnd (lAnd (lAnd lckg_5).2).2).2).2).2).2).2).2).2).2).2).2).2
theorem lckg_6 : (a_all (lCk (aG0 aG1) sLaw 614 173 0 [0] 0 lM_173 lQs) lQs && (a_all (lCk (aG0 aG1) sLaw 614 292 121 [0] 0 lM_292 lQs) lQs && (a_all (lCk (aG0 aG1) sLaw 614 143 0 [0, 0, 0] 0 lM_143 lQs) lQs && (a_all (lCk (aG0 aG1) sLaw 614 196 121 [0, 0, 0] 0 lM_196 lQs) lQs && (a_all (lCk (aG0 aG1) sLaw 614 165 0 [] 0 lM_165 lQk) lQs && (a_all (lCk (aG0 aG1) sLaw 614 276 121 [] 0 lM_276 lQs) lQk && (a_all (lCk (aG0 aG1) sLaw 614 144 0 [] 0 lM_144 lQb) lQs && (a_all (lCk (aG0 aG1) sLaw 614 199 121 [] 0 lM_199 lQs) lQb)))))))) = true := by decide +kernel
theorem lck_173 : a_all (lCk (aG0 aG1) sLaw 614 173 0 [0] 0 lM_173 lQs) lQs = true := (lAnd lckg_6).1
theorem lck_292 : a_all (lCk (aG0 aG1) sLaw 614 292 121 [0] 0 lM_292 lQs) lQs = true := (lAnd (lAnd lckg_6).2).1
theorem lck_143 : a_all (lCk (aG0 aG1) sLaw 614 143 0 [0, 0, 0] 0 lM_143 lQs) lQs = true := (lAnd (lAnd (lAnd lckg_6).2).2).1
theorem lck_196 : a_all (lCk (aG0 aG1) sLaw 614 196 121 [0, 0, 0] 0 lM_196 lQs) lQs = true := (lAnd (lAnd (lAnd (lAnd lckg_6).2).2).2).1
theorem lck_165 : a_all (lCk (aG0 aG1) sLaw 614 165 0 [] 0 lM_165 lQk) lQs = true := (lAnd (lAnd (lAnd (lAnd (lAnd lckg_6).2).2).2).2).1
theorem lck_276 : a_all (lCk (aG0 aG1) sLaw 614 276 121 [] 0 lM_276 lQs) lQk = true := (lAnd (lAnd (lAnd (lAnd (lAnd (lAnd lckg_6).2).2).2).2).2).1
theorem lck_144 : a_all (lCk (aG0 aG1) sLaw 614 144 0 [] 0 lM_144 lQb) lQs = true := (lAnd (lAnd (lAnd (lAnd (lAnd (lAnd (lAnd lckg_6).2).2).2).2).2).2).1
theorem lck_199 : a_all (lCk (aG0 aG1) sLaw 614 199 121 [] 0 lM_199 lQs) lQb = true := (lAnd (lAnd (lAnd (lAnd (lAnd (lAnd (lAnd lckg_6).2).2).2).2).2).2).2
def lQA_0 : aQ := (1, [(0, (-9223372036854775808), 9223372036854775807)], [], [((0, 0, 7), (2, 0, 24)), ((0, 0, 8), (2, 0, 39)), ((0, 0, 10), (0, 0, 0)), ((121, 0, 23), (0, 0, 0))], [30, 61, 92, 123, 217, 218, 219, 220, 221, 222, 345, 346, 347, 348])
def lQA_1 : aQ := (5, [(4, 2, 8), (3, 1, 6), (2, 1, 3), (1, 0, 6), (0, (-9223372036854775808), 9223372036854775807)], [], [((0, 0, 7), (2, 0, 24)), ((0, 0, 8), (2, 0, 39)), ((126, 0, 553), (0, 2, 0)), ((126, 0, 552), (0, 3, 0)), ((126, 0, 551), (0, 4, 0)), ((126, 0, 550), (0, 5, 0)), ((121, 0, 23), (0, 0, 1)), ((0, 0, 10), (0, 0, 1))], [30, 61, 92, 123, 217, 218, 219, 220, 221, 222, 345, 346, 347, 348])
def lQA_2 : aQ := (9, [(8, 2, 8), (7, 1, 6), (6, 1, 3), (5, 0, 6), (4, 2, 8), (3, 1, 6), (2, 1, 3), (1, 0, 6), (0, (-9223372036854775808), 9223372036854775807)], [], [((0, 0, 7), (2, 0, 24)), ((0, 0, 8), (2, 0, 39)), ((126, 0, 1103), (0, 2, 0)), ((126, 0, 1102), (0, 3, 0)), ((126, 0, 1101), (0, 4, 0)), ((126, 0, 1100), (0, 5, 0)), ((121, 0, 23), (0, 0, 2)), ((0, 0, 10), (0, 0, 2)), ((126, 0, 553), (0, 6, 0)), ((126, 0, 552), (0, 7, 0)), ((126, 0, 551), (0, 8, 0)), ((126, 0, 550), (0, 9, 0))], [30, 61, 92, 123, 217, 218, 219, 220, 221, 222, 345, 346, 347, 348])
def lQA_3 : aQ := (13, [(12, 2, 8), (11, 1, 6), (10, 1, 3), (9, 0, 6), (8, 2, 8), (7, 1, 6), (6, 1, 3), (5, 0, 6), (4, 2, 8), (3, 1, 6), (2, 1, 3), (1, 0, 6), (0, (-9223372036854775808), 9223372036854775807)], [], [((0, 0, 7), (2, 0, 24)), ((0, 0, 8), (2, 0, 39)), ((126, 0, 1653), (0, 2, 0)), ((126, 0, 1652), (0, 3, 0)), ((126, 0, 1651), (0, 4, 0)), ((126, 0, 1650), (0, 5, 0)), ((121, 0, 23), (0, 0, 3)), ((0, 0, 10), (0, 0, 3)), ((126, 0, 1103), (0, 6, 0)), ((126, 0, 1102), (0, 7, 0)), ((126, 0, 1101), (0, 8, 0)), ((126, 0, 1100), (0, 9, 0)), ((126, 0, 553), (0, 10, 0)), ((126, 0, 552), (0, 11, 0)), ((126, 0, 551), (0, 12, 0)), ((126, 0, 550), (0, 13, 0))], [30, 61, 92, 123, 217, 218, 219, 220, 221, 222, 345, 346, 347, 348])
def lQA : List aQ := [lQA_0, lQA_1, lQA_2, lQA_3]
def lMA_143 : aM := [(0, 0, 2), (39, 0, 4), (40, 0, 47), (41, 0, 47), (42, 0, 143), (43, 0, 5), (44, 0, 5), (45, 0, 5), (46, 0, 5), (47, 0, 5), (48, 0, 5), (49, 0, 1), (50, 0, 59), (51, 0, 59), (52, 0, 59), (53, 0, 59), (100, 3, 5), (100, 7, 8), (101, 0, 47), (102, 0, 47), (103, 0, 63), (104, 0, 47), (117, 2, 11), (118, 0, 59)]
theorem lckA_143 : a_all (lCk (aG0 aG1) sLaw 614 143 0 [0, 0, 0] 0 lMA_143 lQs) lQA = true := by decide +kernel
def lQB_0 : aQ := (1, [(0, (-9223372036854775808), 9223372036854775807)], [], [((0, 0, 7), (2, 0, 39)), ((0, 0, 8), (2, 0, 24)), ((0, 0, 10), (0, 0, 0)), ((121, 0, 23), (0, 0, 0))], [30, 61, 92, 123, 217, 218, 219, 220, 221, 222, 345, 346, 347, 348])
def lQB_1 : aQ := (5, [(4, 2, 8), (3, 1, 6), (2, 1, 3), (1, 0, 6), (0, (-9223372036854775808), 9223372036854775807)], [], [((0, 0, 7), (2, 0, 39)), ((0, 0, 8), (2, 0, 24)), ((126, 0, 553), (0, 2, 0)), ((126, 0, 552), (0, 3, 0)), ((126, 0, 551), (0, 4, 0)), ((126, 0, 550), (0, 5, 0)), ((121, 0, 23), (0, 0, 1)), ((0, 0, 10), (0, 0, 1))], [30, 61, 92, 123, 217, 218, 219, 220, 221, 222, 345, 346, 347, 348])
def lQB_2 : aQ := (9, [(8, 2, 8), (7, 1, 6), (6, 1, 3), (5, 0, 6), (4, 2, 8), (3, 1, 6), (2, 1, 3), (1, 0, 6), (0, (-9223372036854775808), 9223372036854775807)], [], [((0, 0, 7), (2, 0, 39)), ((0, 0, 8), (2, 0, 24)), ((126, 0, 1103), (0, 2, 0)), ((126, 0, 1102), (0, 3, 0)), ((126, 0, 1101), (0, 4, 0)), ((126, 0, 1100), (0, 5, 0)), ((121, 0, 23), (0, 0, 2)), ((0, 0, 10), (0, 0, 2)), ((126, 0, 553), (0, 6, 0)), ((126, 0, 552), (0, 7, 0)), ((126, 0, 551), (0, 8, 0)), ((126, 0, 550), (0, 9, 0))], [30, 61, 92, 123, 217, 218, 219, 220, 221, 222, 345, 346, 347, 348])
def lQB_3 : aQ := (13, [(12, 2, 8), (11, 1, 6), (10, 1, 3), (9, 0, 6), (8, 2, 8), (7, 1, 6), (6, 1, 3), (5, 0, 6), (4, 2, 8), (3, 1, 6), (2, 1, 3), (1, 0, 6), (0, (-9223372036854775808), 9223372036854775807)], [], [((0, 0, 7), (2, 0, 39)), ((0, 0, 8), (2, 0, 24)), ((126, 0, 1653), (0, 2, 0)), ((126, 0, 1652), (0, 3, 0)), ((126, 0, 1651), (0, 4, 0)), ((126, 0, 1650), (0, 5, 0)), ((121, 0, 23), (0, 0, 3)), ((0, 0, 10), (0, 0, 3)), ((126, 0, 1103), (0, 6, 0)), ((126, 0, 1102), (0, 7, 0)), ((126, 0, 1101), (0, 8, 0)), ((126, 0, 1100), (0, 9, 0)), ((126, 0, 553), (0, 10, 0)), ((126, 0, 552), (0, 11, 0)), ((126, 0, 551), (0, 12, 0)), ((126, 0, 550), (0, 13, 0))], [30, 61, 92, 123, 217, 218, 219, 220, 221, 222, 345, 346, 347, 348])
def lQB : List aQ := [lQB_0, lQB_1, lQB_2, lQB_3]
def lMB_143 : aM := [(0, 0, 2), (24, 0, 4), (25, 0, 47), (26, 0, 47), (27, 0, 143), (28, 0, 5), (29, 0, 5), (30, 0, 5), (31, 0, 5), (32, 0, 5), (33, 0, 5), (34, 0, 1), (35, 0, 59), (36, 0, 59), (37, 0, 59), (38, 0, 59), (100, 3, 5), (100, 7, 8), (101, 0, 47), (102, 0, 47), (103, 0, 63), (104, 0, 47), (117, 2, 11), (118, 0, 59)]
theorem lckB_143 : a_all (lCk (aG0 aG1) sLaw 614 143 0 [0, 0, 0] 0 lMB_143 lQs) lQB = true := by decide +kernel
end
section
/-! THE HANDS: contracts that the kernel doesn't check by itself -/
noncomputable def tyI (l : aTc) (lo hi k : Nat) (a b : Int) : Bool := match a_uniF (Int.ofNat lo) (Int.ofNat hi) l with
  | some t => Nat.beq t.1 k && (Nat.blt k 2 && (@decide (a ≤ t.2.1) (a_decLe _ _) && @decide (t.2.2.1 ≤ b) (a_decLe _ _)))
  | none => false
theorem tyI_ok {g : Nat → zV} {l : aTc} {lo hi k : Nat} {a b : Int} (hg : atyC g l 0) (hb : tyI l lo hi k a b = true) : ∀ j, lo ≤ j → j ≤ hi → (g j).1 = k ∧ a ≤ (g j).2 ∧ (g j).2 ≤ b := by
  intro j h1 h2
  unfold tyI at hb
  split at hb
  · rename_i t ht
    simp only [Bool.and_eq_true, a_dec_eq] at hb
    obtain ⟨b1, b2, b3, b4⟩ := hb
    have b1 := Nat.eq_of_beq_eq_true b1
    have b2 : k < 2 := Nat.le_of_ble_eq_true b2
    have h := a_uniF_ok (lo := (lo : Int)) (hi := (hi : Int)) (j := j) ht hg (by omega) (by omega)
    obtain ⟨t1, t2, t3, t4⟩ := t
    have b1 : t1 = k := b1
    subst b1
    match t1, h with
    | 0, ⟨x1, x2, x3⟩ => exact ⟨x1, Int.le_trans b3 x2, Int.le_trans x3 b4⟩
    | 1, ⟨x1, x2, x3⟩ => exact ⟨x1, Int.le_trans b3 x2, Int.le_trans x3 b4⟩
    | n + 2, _ => omega
  · cases hb
noncomputable def tyR (l : aTc) (k : Nat) (c : Int) : Bool := match a_uniF (Int.ofNat k) (Int.ofNat k) l with
  | some (2, _, _, [z]) => @decide (z = c) (a_decEqZ _ _) && @decide (0 ≤ c) (a_decLe _ _)
  | _ => false
theorem tyR_ok {g : Nat → zV} {l : aTc} {k : Nat} {c : Int} (hg : atyC g l 0) (hb : tyR l k c = true) : g k = (2, c) := by
  unfold tyR at hb
  split at hb
  · rename_i a b z ht
    rw [Bool.and_eq_true, a_dec_eq, a_dec_eq] at hb
    obtain ⟨w, hw, he⟩ := a_uniF_ok (lo := (k : Int)) (hi := (k : Int)) (j := k) ht hg (Int.le_refl _) (Int.le_refl _)
    have hw : w = z := List.mem_singleton.mp hw
    rw [he, hw, hb.1, if_neg (by omega)]
  · cases hb
section HF
variable {h : zH}
theorem tt_121 (ht : aTyped aTy1 h) : atyC (h 121) ty_121 0 := ht 121 ty_121 rfl
theorem tt_126 (ht : aTyped aTy1 h) : atyC (h 126) ty_126 0 := ht 126 ty_126 rfl
theorem tt_129 (ht : aTyped aTy1 h) : atyC (h 129) ty_129 0 := ht 129 ty_129 rfl
theorem tt_130 (ht : aTyped aTy1 h) : atyC (h 130) ty_130 0 := ht 130 ty_130 rfl
theorem tt_132 (ht : aTyped aTy1 h) : atyC (h 132) ty_132 0 := ht 132 ty_132 rfl
theorem hHp_of (hi : ∀ k, k < 2750 → (h 126 k).1 = 0) (ht : aTyped aTy1 h) : hHp h := by
  refine ⟨⟨tyR_ok (tt_121 ht) (by decide +kernel), tyR_ok (tt_121 ht) (by decide +kernel), tyR_ok (tt_121 ht) (by decide +kernel)⟩, hi, fun k hk => ?_, ?_, ?_, fun k hk => ⟨?_, ?_⟩, fun k hk => ?_⟩
  · exact tyI_ok (lo := 0) (hi := 47) (k := 0) (a := 0) (b := 1000000) (tt_130 ht) (by decide +kernel) k (by omega) (by omega)
  · exact (tyI_ok (lo := 0) (hi := 0) (k := 0) (a := 2) (b := 8) (tt_126 ht) (by decide +kernel) 0 (by omega) (by omega)).2
  · exact (tyI_ok (lo := 1) (hi := 1) (k := 0) (a := 1) (b := 6) (tt_126 ht) (by decide +kernel) 1 (by omega) (by omega)).2
  · exact (tyI_ok (lo := 5) (hi := 52) (k := 0) (a := -1) (b := 4) (tt_126 ht) (by decide +kernel) (5 + k) (by omega) (by omega)).2
  · exact (tyI_ok (lo := 53) (hi := 100) (k := 0) (a := 0) (b := 9) (tt_126 ht) (by decide +kernel) (53 + k) (by omega) (by omega)).2
  · exact (tyI_ok (lo := 101) (hi := 244) (k := 0) (a := 0) (b := 3) (tt_126 ht) (by decide +kernel) (101 + k) (by omega) (by omega)).2
theorem tIn_of (ht : aTyped aTy1 h) : tIn h := fun i hi => tyI_ok (lo := 0) (hi := 48) (k := 0) (a := 0) (b := 47) (tt_132 ht) (by decide +kernel) i (by omega) (by omega)
-- one cell of whole numbers is another
theorem aTyped_set {h' : zH} {r : Nat} {l : aTc} (ht : aTyped aTy1 h) (hl : a_at aTy1 r = some l) (hr : atyC (h' r) l 0) (he : ∀ a, a ≠ r → h' a = h a) : aTyped aTy1 h' := by
  intro a l' hl'
  by_cases e : a = r
  · subst e
    rw [hl] at hl'
    cases hl'
    exact hr
  · rw [he a e]
    exact ht a l' hl'
theorem aty_hout {h' : zH} (hp : hHp h') : atyC (h' 130) ty_130 0 := ⟨⟨fun j _ hj => ⟨(hp.2.2.1 j (by have : j < 0 + 48 := hj; omega)).1, (hp.2.2.1 j (by have : j < 0 + 48 := hj; omega)).2⟩, trivial⟩, Nat.le_refl _, trivial⟩
theorem aty_row {h' : zH} (hp : tIn h') : atyC (h' 132) ty_132 0 := ⟨⟨fun j _ hj => hp j (by have : j < 0 + 49 := hj; omega), trivial⟩, Nat.le_refl _, trivial⟩
end HF
/-- at the end of a run that left a heap of its own -/
theorem aDen.at {X : aX} {ρ : Nat → Int} {n : Nat} {E : aB} {h h' : zH} {fl : List Nat} (g : aEnv ρ n E []) (ht : aTyped X.1.1 h') (hf : ∀ j ∈ fl, X.2.2.1 j h') (hm : aFr X.2.2.2.2 X.2.2.2.1 h') (hl : X.1.2.2 = false) : aDen X ρ (n, E, [], [], fl) h' := ⟨g, ht, fun e he => absurd he List.not_mem_nil, hf, hm, fun e => by rw [hl] at e; cases e⟩
def bH (o : Nat) (D : zD) (Fl : Nat → zH → Prop) (T : zT) : Prop := (∀ h m, aOK (aG0 aG1, D, Fl, h, m)) ∧ (∀ h m, aFlOK (aG0 aG1, D, Fl, h, m)) ∧ (∀ h m, aIntOK (aG0 aG1, D, Fl, h, m)) ∧ (∀ mi t, x_nth zMT mi = some t → ∀ pc i, z_at t pc = some i → T mi pc = some i)
section HK
variable {o : Nat} {D : zD} {Fl : Nat → zH → Prop} {T : zT}
theorem hk_beside (B : bH o D Fl T) : aSpecO o aG1 D Fl T k_279 := by
  intro ρ h bs g has
  match bs, has with
  | [a, b, c], ⟨⟨_, ha⟩, ⟨_, hb⟩, ⟨_, hc⟩, _⟩ =>
    have ht : aTyped aTy1 h := g.2.1
    have hp := hHp_of (B.2.2.1 h [] h ht).1 ht
    have e0 := (g.1.1 (0, 0, 47) (by decide)).2
    have e0 : 0 ≤ ρ 0 ∧ ρ 0 ≤ 47 := e0
    have hb : b = (0, ρ 0) := by rw [hb]; show (0, ρ 0 + 0) = _; rw [Int.add_zero]
    have hc : c = (0, ρ 1) := by rw [hc]; show (0, ρ 1 + 0) = _; rw [Int.add_zero]
    rw [ha, hb, hc]
    have bb := bE_b hp (ρ 0) (ρ 1)
    refine ⟨(h, some (0, bE h (ρ 0) (ρ 1))), (r_beside (d := 0) B.2.2.2 hp e0.1 (by omega)).deeper _ (Nat.le_add_left 2 o), _, List.mem_cons_self, aup ρ 2 (bE h (ρ 0) (ρ 1)), aup_ag ρ 2 _, Nat.le_succ 2, ?_, Nat.le_refl 3, ?_⟩
    · exact (show aDen _ ρ (2, _, [], [], []) h from g).push (lo := -1) (hi := 47) bb.1 (by omega)
    · show (0, bE h (ρ 0) (ρ 1)) = (0, aup ρ 2 (bE h (ρ 0) (ρ 1)) 2 + 0)
      rw [aup_at, Int.add_zero]
theorem hk_wayOf (B : bH o D Fl T) : aSpecO o aG1 D Fl T k_354 := by
  intro ρ h bs g has
  match bs, has with
  | [a, b, c, d], ⟨⟨_, ha⟩, ⟨_, hb⟩, ⟨_, hc⟩, ⟨_, hd⟩, _⟩ =>
    have ht : aTyped aTy1 h := g.2.1
    have hp := hHp_of (B.2.2.1 h [] h ht).1 ht
    have e0 : -1 ≤ ρ 0 ∧ ρ 0 ≤ 2 := (g.1.1 (0, -1, 2) (by decide)).2
    have e1 : 0 ≤ ρ 1 ∧ ρ 1 ≤ 47 := (g.1.1 (1, 0, 47) (by decide)).2
    have e2 : 0 ≤ ρ 2 ∧ ρ 2 ≤ 47 := (g.1.1 (2, 0, 47) (by decide)).2
    have hb : b = (0, ρ 0) := by rw [hb]; show (0, ρ 0 + 0) = _; rw [Int.add_zero]
    have hc : c = (0, ρ 1) := by rw [hc]; show (0, ρ 1 + 0) = _; rw [Int.add_zero]
    have hd : d = (0, ρ 2) := by rw [hd]; show (0, ρ 2 + 0) = _; rw [Int.add_zero]
    rw [ha, hb, hc, hd]
    obtain ⟨h', w1, w2, -, -, w5⟩ := r_wayOf (D := D) (d := 0) B.2.2.2 hp e0 ⟨e1.1, by omega⟩ ⟨e2.1, by omega⟩
    have wb := wE_b w1 (from_ := ρ 1) ⟨e1.1, by omega⟩
    have ht' : aTyped aTy1 h' := aTyped_set ht (r := 130) (l := ty_130) rfl (aty_hout w1) (fun a ha => funext fun k => w2 a k (fun c => ha c.1))
    refine ⟨(h', some (0, wE h' (ρ 1))), w5.deeper _ (by show 0 + 4 ≤ o + 6; omega), _, List.mem_cons_self, aup ρ 3 (wE h' (ρ 1)), aup_ag ρ 3 _, Nat.le_succ 3, ?_, Nat.le_refl 4, ?_⟩
    · refine aDen.push (q := (3, _, [], [], [])) (lo := 0) (hi := 1000000) (aDen.at (h := h) g.1 ht' (fun j hj => absurd hj List.not_mem_nil) (fun r k hn => w2 r k (fun c => hn ⟨(130, 0, 47), List.mem_cons_self, c.1.symm, Nat.zero_le _, by show k ≤ 47; omega⟩)) rfl) wb.1 wb.2
    · show (0, wE h' (ρ 1)) = (0, aup ρ 3 (wE h' (ρ 1)) 3 + 0)
      rw [aup_at, Int.add_zero]
theorem hk_tellCompany (B : bH o D Fl T) : aSpecO o aG1 D Fl T k_276 := by
  intro ρ h bs g has
  match bs, has with
  | [a, b], ⟨⟨_, ha⟩, ⟨_, hb⟩, _⟩ =>
    have ht : aTyped aTy1 h := g.2.1
    have hp := hHp_of (B.2.2.1 h [] h ht).1 ht
    have e0 : 0 ≤ ρ 0 ∧ ρ 0 ≤ 5 := (g.1.1 (0, 0, 5) (by decide)).2
    have hb : b = (0, ρ 0) := by rw [hb]; show (0, ρ 0 + 0) = _; rw [Int.add_zero]
    rw [ha, hb]
    have hA : rAl h 126 0 := ((B.1 h []).2.2 345 h (by omega) (by omega)).mp (g.2.2.2.1 345 (by decide))
    have hA := hA (245 + ρ 0).toNat (by unfold rIn; omega)
    have b2 : 0 ≤ hc h (245 + ρ 0).toNat ∧ hc h (245 + ρ 0).toNat ≤ 47 := (tyI_ok (lo := 245) (hi := 262) (k := 0) (a := 0) (b := 47) (tt_126 ht) (by decide +kernel) (245 + ρ 0).toNat (by omega) (by omega)).2
    have b3 : 0 ≤ hc h (251 + ρ 0).toNat ∧ hc h (251 + ρ 0).toNat ≤ 47 := (tyI_ok (lo := 245) (hi := 262) (k := 0) (a := 0) (b := 47) (tt_126 ht) (by decide +kernel) (251 + ρ 0).toNat (by omega) (by omega)).2
    have b1 : 0 ≤ hc h (263 + ρ 0).toNat ∧ hc h (263 + ρ 0).toNat ≤ 2 := (tyI_ok (lo := 263) (hi := 268) (k := 0) (a := 0) (b := 2) (tt_126 ht) (by decide +kernel) (263 + ρ 0).toNat (by omega) (by omega)).2
    have cc : 2 ≤ hc h 0 * hc h 1 := by
      obtain ⟨-, -, -, c0, c1, -⟩ := id hp
      have : 2 * 1 ≤ hc h 0 * hc h 1 := Int.mul_le_mul c0.1 c1.1 (by omega) (by omega)
      omega
    have b4 : hc h (245 + ρ 0).toNat < hc h 0 * hc h 1 := by
      rcases hA with e | e
      · have e : hc h (245 + ρ 0).toNat = 0 := e
        omega
      · exact e
    obtain ⟨h1, h', n', v, g1, g2, g3, g4, g5, g6, g7, g8, g9⟩ := r_tellCompany (D := D) (d := 0) B.2.2.2 hp (tIn_of ht) e0.1 e0.2 b1 ⟨b2.1, by omega⟩ ⟨b3.1, by omega⟩ b4
    have hn31 : h' 121 31 = (0, n') := g4.1
    have fr : ∀ r k, ¬ (r = 130 ∧ k < 48) → ¬ (r = 132 ∧ k < 49) → ¬ (r = 121 ∧ k = 31) → h' r k = h r k := fun r k x y z => (g3 r k y z).trans (g2 r k x)
    have hp' : hHp h' := g3.hHp g1
    have t0 : aTyped aTy1 (fun r => if r = 121 then h' 121 else h r) := aTyped_set ht (r := 121) (l := ty_121) rfl (by
      show atyC (h' 121) ty_121 0
      have e : h' 121 = zset h 121 31 (0, n') 121 := funext fun k => by
        by_cases c : k = 31
        · rw [c, hn31]; exact (if_pos ⟨rfl, rfl⟩).symm
        · rw [fr 121 k (fun x => by omega) (fun x => by omega) (fun x => c x.2)]; exact (if_neg (fun x => c x.2)).symm
      rw [e, zset_self]
      exact a_accsF_ok (lo := 31) (hi := 31) (v := (0, 0, 0)) (vl := 0) (vh := 48) (k := 31) rfl g5 g6 (by omega) (by omega) (by decide +kernel) (tt_121 ht)) (fun a ha => by show (if a = 121 then _ else _) = _; rw [if_neg ha])
    have t1 : aTyped aTy1 (fun r => if r = 130 then h' 130 else if r = 121 then h' 121 else h r) := aTyped_set t0 (r := 130) (l := ty_130) rfl (by show atyC (h' 130) ty_130 0; exact aty_hout hp') (fun a ha => by show (if a = 130 then _ else _) = _; rw [if_neg ha])
    have ht' : aTyped aTy1 h' := aTyped_set t1 (r := 132) (l := ty_132) rfl (aty_row g4.2.1) (fun a ha => by
      show h' a = (if a = 130 then h' 130 else if a = 121 then h' 121 else h a)
      by_cases c1 : a = 130
      · rw [if_pos c1, c1]
      · rw [if_neg c1]
        by_cases c2 : a = 121
        · rw [if_pos c2, c2]
        · rw [if_neg c2]
          exact funext fun k => fr a k (fun x => c1 x.1) (fun x => ha x.1) (fun x => c2 x.1))
    have h351 : Fl 351 h' := ((B.1 h []).2.2 351 h' (by omega) (by omega)).mpr (fun i hi hn => Or.inr (by
      rw [hn31] at hn
      exact g4.2.2 i hn hi))
    refine ⟨(h', some (0, v)), g9.deeper _ (by show 0 + 6 ≤ o + 8; omega), _, List.mem_cons_self, aup ρ 1 v, aup_ag ρ 1 _, Nat.le_succ 1, ?_, Nat.le_refl 2, ?_⟩
    · refine aDen.push (q := (1, _, [], [], [351])) (lo := 0) (hi := 1000000) (aDen.at (h := h) g.1 ht' (fun j hj => by rw [List.mem_singleton.mp hj]; exact h351) (fun r k hn => fr r k (fun c => hn ⟨(130, 0, 47), List.mem_cons_of_mem _ List.mem_cons_self, c.1.symm, Nat.zero_le _, by show k ≤ 47; omega⟩) (fun c => hn ⟨(132, 0, 48), List.mem_cons_of_mem _ (List.mem_cons_of_mem _ List.mem_cons_self), c.1.symm, Nat.zero_le _, by show k ≤ 48; omega⟩) (fun c => hn ⟨(121, 31, 31), List.mem_cons_self, c.1.symm, by show 31 ≤ k; omega, by show k ≤ 31; omega⟩)) rfl) g7 g8
    · show (0, v) = (0, aup ρ 1 v 1 + 0)
      rw [aup_at, Int.add_zero]
end HK
end
section
/-! THE HANDS: families -/
theorem zRun_d {D : zD} {T : zT} {d d' mi pc : Nat} {z : zS} {r : zR} (h : zRun D T d mi pc z r) (e : d = d') : zRun D T d' mi pc z r := by subst e; exact h
-- heapFrom: as many cells yet unseen
def hun (h : zH) : Nat → Nat
  | 0 => 0
  | n + 1 => hun h n + if (h 129 n).2 = 0 then 1 else 0
theorem hun_set {h : zH} {k : Nat} : ∀ n, hun (zset h 129 k (0, 1)) n + (if k < n ∧ (h 129 k).2 = 0 then 1 else 0) = hun h n
  | 0 => by rw [if_neg (by omega)]; rfl
  | n + 1 => by
    have ih := hun_set (h := h) (k := k) n
    show hun (zset h 129 k (0, 1)) n + (if (if (129 : Nat) = 129 ∧ n = k then ((0, 1) : zV) else h 129 n).2 = 0 then 1 else 0) + _ = hun h n + (if (h 129 n).2 = 0 then 1 else 0)
    by_cases e : n = k
    · subst e
      rw [if_pos (show (129 : Nat) = 129 ∧ n = n from ⟨rfl, rfl⟩), if_neg (show ¬ ((1 : Int) = 0) by omega)]
      rw [if_neg (by omega)] at ih
      by_cases c : (h 129 n).2 = 0
      · rw [if_pos ⟨by omega, c⟩, if_pos c]; omega
      · rw [if_neg (fun x => c x.2), if_neg c]; omega
    · rw [if_neg (show ¬ ((129 : Nat) = 129 ∧ n = k) from fun x => e x.2)]
      by_cases c : k < n ∧ (h 129 k).2 = 0
      · rw [if_pos c] at ih
        rw [if_pos (show k < n + 1 ∧ (h 129 k).2 = 0 from ⟨by omega, c.2⟩)]; omega
      · rw [if_neg c] at ih
        rw [if_neg (show ¬ (k < n + 1 ∧ (h 129 k).2 = 0) from fun x => c ⟨by omega, x.2⟩)]; omega
theorem hun_mark {h : zH} {k : Nat} (hk : k < 48) : hun (zset h 129 k (0, 1)) 48 ≤ 47 := by
  have h1 := hun_set (h := h) (k := k) 48
  have key : ∀ n, n ≤ 48 → hun (zset h 129 k (0, 1)) n + (if k < n then 1 else 0) ≤ n := by
    intro n
    induction n with
    | zero => intro _; rw [if_neg (by omega)]; exact Nat.le_refl 0
    | succ n ih =>
      intro hn
      have ih := ih (by omega)
      show hun (zset h 129 k (0, 1)) n + (if (if (129 : Nat) = 129 ∧ n = k then ((0, 1) : zV) else h 129 n).2 = 0 then 1 else 0) + _ ≤ n + 1
      by_cases e : n = k
      · subst e
        rw [if_pos (show (129 : Nat) = 129 ∧ n = n from ⟨rfl, rfl⟩), if_neg (show ¬ ((1 : Int) = 0) by omega), if_pos (show n < n + 1 by omega)]
        rw [if_neg (by omega)] at ih
        omega
      · by_cases c : k < n
        · rw [if_pos c] at ih
          rw [if_pos (show k < n + 1 by omega)]
          split <;> (try split) <;> omega
        · rw [if_neg c] at ih
          rw [if_neg (show ¬ k < n + 1 by omega)]
          split <;> (try split) <;> omega
  have := key 48 (Nat.le_refl 48)
  rw [if_pos hk] at this
  omega
def FlN (Fl : Nat → zH → Prop) (N : Nat) : Nat → zH → Prop := FlW Fl 353 (fun h => hun h 48 ≤ N)
theorem FlN_eq {Fl : Nat → zH → Prop} {N : Nat} {h : zH} : FlN Fl N 353 h ↔ hun h 48 ≤ N := FlW_eq
theorem FlN_ne {Fl : Nat → zH → Prop} {N j : Nat} {h : zH} (hj : j ≠ 353) : FlN Fl N j h ↔ Fl j h := FlW_ne hj
noncomputable def κh : aK := kdp 2 (kfl 353 (kov ((129, 2, 0), (0, 0, 0)) k_377))
noncomputable def κ7 : aK := kdp 3 (kfl 353 k_377)
noncomputable def q7 : aQ := (2, k_377.2.2.1.2.1, [], [((129, 2, 0), (0, 0, 1)), ((121, 0, 26), (2, 0, 129))], [353])
noncomputable def st7 : aS := (q7, a_args k_377.2.2.2.1 0, [])
theorem kh_0 : a_from (aG0 aG1) aLm1 h_377 [k_279, κh] 100000 κ7 [cfl 353 c_377_1] zt_X12_heapFrom none 7 st7 = true := by decide +kernel
theorem kh_1 : (a_all (fun x => a_scp (cfl 353 c_377_1).2.1.1.1 x.1) (cfl 353 c_377_1).2.2 && a_from (aG0 aG1) aLm1 h_377 [k_279, κh] 100000 κ7 [cfl 353 c_377_1] zt_X12_heapFrom (some (cfl 353 c_377_1).2.2) 12 (cfl 353 c_377_1).2.1) = true := by decide +kernel
section FA
variable {o : Nat} {D : zD} {Fl : Nat → zH → Prop} {T : zT}
theorem bH_N (B : bH o D Fl T) (o' N : Nat) : bH o' D (FlN Fl N) T := by
  refine ⟨fun h m => aOK_W (B.1 h m) (Nat.le_refl 353) (s := [(129, 0, 47)]) rfl (fun h1 h2 he hp => ?_), fun h m => aFlOK_W (B.2.1 h m) (Nat.le_refl 353), fun h m => B.2.2.1 h m, B.2.2.2⟩
  have : ∀ n, n ≤ 48 → hun h2 n = hun h1 n := by
    intro n
    induction n with
    | zero => intro _; rfl
    | succ n ih =>
      intro hn
      show hun h2 n + (if (h2 129 n).2 = 0 then 1 else 0) = hun h1 n + _
      rw [ih (by omega), he 129 n ⟨(129, 0, 47), List.mem_cons_self, rfl, Nat.zero_le _, by show n ≤ 47; omega⟩]
  rw [this 48 (Nat.le_refl 48)]
  exact hp
theorem h_body (B : bH o D Fl T) (N : Nat) (ih : aSpecO (o + N) aG1 D (FlN Fl N) T κh) {h0 : zH} {ρ : Nat → Int} {z : zS} (g : aStD (aG0 aG1, D, FlN Fl N, h0, k_377.2.2.2.2.1) ρ st7 z) : aGood (o + N) (aG0 aG1, D, FlN Fl N, h0, k_377.2.2.2.2.1) T κ7 3 237 7 z ρ := by
  have BN := bH_N B (o + N) N
  have hK : ∀ κ ∈ [k_279, κh], aSpecO (o + N) aG1 D (FlN Fl N) T κ := List.forall_mem_cons.mpr ⟨hk_beside BN, List.forall_mem_cons.mpr ⟨ih, fun _ h => absurd h List.not_mem_nil⟩⟩
  have hlm := aLmR_ok (BN.1 h0 k_377.2.2.2.2.1) (BN.2.1 h0 k_377.2.2.2.2.1) (BN.2.2.1 h0 k_377.2.2.2.2.1)
  have k1 := kh_1
  rw [Bool.and_eq_true] at k1
  have all := a_cutsH_ok (X := (aG0 aG1, D, FlN Fl N, h0, k_377.2.2.2.2.1)) (o := o + N) (κ := κ7) (cuts := [cfl 353 c_377_1]) (BN.1 _ _) hK B.2.2.2 hlm (hm_heapFrom B.2.2.2) rfl (fun _ => false) (fun c hc => by rw [List.mem_singleton.mp hc]; exact k1.1) (fun c hc _ => by rw [List.mem_singleton.mp hc]; exact k1.2) (fun c _ h => absurd h Bool.false_ne_true)
  rcases a_from_ok (X := (aG0 aG1, D, FlN Fl N, h0, k_377.2.2.2.2.1)) (o := o + N) (κ := κ7) (BN.1 _ _) hK B.2.2.2 hlm (hm_heapFrom B.2.2.2) rfl kh_0 (Nat.le_refl 2) g with h | ⟨c, hc, σ, z', b1, b2, b3, b4, -⟩
  · exact h
  · exact (all c hc b2 σ z' b3).back b1 b4
theorem h_enter (B : bH o D Fl T) (N : Nat) {h : zH} {ρ : Nat → Int} {bs : List zV} {d : Nat} (he : aEnv ρ 2 k_377.2.2.1.2.1 []) (ht : aTyped aTy1 h) (has : aRl ρ 2 k_377.2.2.2.1 bs) (hn : hun (zset h 129 (ρ 1).toNat (0, 1)) 48 ≤ N) : ∃ z, aStD (aG0 aG1, D, FlN Fl N, h, k_377.2.2.2.2.1) ρ st7 z ∧ ∀ zr, zRun D T d 237 7 z zr → zRun D T d 237 0 (h, zargs 0 bs, []) zr := by
  have hargs := (a_args_ok 0 has).2
  match bs, has with
  | [a, b, c], ⟨⟨_, ha⟩, ⟨_, hb⟩, ⟨_, hc⟩, _⟩ =>
    have e1 : 0 ≤ ρ 1 ∧ ρ 1 ≤ 47 := (he.1 (1, 0, 47) (by decide)).2
    have hc' : c = (0, ρ 1) := by rw [hc]; show (0, ρ 1 + 0) = _; rw [Int.add_zero]
    have hm := hm_heapFrom (T := T) B.2.2.2
    have s26 : h 121 26 = (2, 129) := tyR_ok (tt_121 ht) (by decide +kernel)
    refine ⟨(zset h 129 (ρ 1).toNat (0, 1), zargs 0 [a, b, c], []), ⟨⟨he, ?_, ?_, ?_, ?_, fun e => by cases e⟩, hargs, trivial⟩, fun zr k => ?_⟩
    · refine aTyped_set ht (r := 129) (l := ty_129) rfl ?_ (fun a ha => zset_other h 129 (ρ 1).toNat (0, 1) a ha)
      show atyC (zset h 129 (ρ 1).toNat (0, 1) 129) ty_129 0
      rw [zset_self]
      exact a_accsF_ok (lo := 0) (hi := 47) (v := (0, 0, 0)) (vl := 1) (vh := 1) (k := (ρ 1).toNat) rfl (Int.le_refl 1) (Int.le_refl 1) (by omega) (by omega) (by decide +kernel) (tt_129 ht)
    · intro e hq
      rcases List.mem_cons.mp hq with e' | e'
      · rw [e']
        refine ⟨Nat.le_refl 2, by show 0 ≤ ρ 1 + 0; omega, Nat.zero_le _, ?_⟩
        show (if (129 : Nat) = 129 ∧ (ρ 1 + 0).toNat = (ρ 1).toNat then ((0, 1) : zV) else _) = (0, 1)
        rw [Int.add_zero, if_pos ⟨rfl, rfl⟩]
      · rw [List.mem_singleton.mp e']
        refine ⟨Nat.zero_le _, Int.natCast_nonneg 26, Nat.zero_le _, ?_⟩
        show (if (121 : Nat) = 129 ∧ 26 = (ρ 1).toNat then ((0, 1) : zV) else h 121 26) = (2, 129)
        rw [if_neg (fun x => absurd x.1 (by decide))]
        exact s26
    · intro j hj
      rw [List.mem_singleton.mp hj]
      exact (FlN_eq (Fl := Fl)).mpr hn
    · intro r k hn
      exact if_neg (fun x => hn ⟨(129, 0, 47), List.mem_cons_self, x.1.symm, Nat.zero_le _, by show k ≤ 47; omega⟩)
    · rw [ha, hb, hc'] at k ⊢
      refine hq_load (hm _ _ rfl) rfl rfl ?_
      refine hq_getf (hm _ _ rfl) rfl s26 ?_
      refine hq_load (hm _ _ rfl) rfl rfl ?_
      refine hq_pushZ (w := 1) (hm _ _ rfl) rfl ?_
      refine hq_ast (hm _ _ rfl) ⟨za129 (by omega) (by omega), rfl, by decide⟩ ?_
      exact k
theorem h_in {N : Nat} {h : zH} {ρ : Nat → Int} (g0 : aDen (aG0 aG1, D, FlN Fl N, h, k_377.2.2.2.2.1) ρ κh.2.2.1 h) : ∃ N', N = N' + 1 ∧ hun (zset h 129 (ρ 1).toNat (0, 1)) 48 ≤ N' := by
  have e1 : 0 ≤ ρ 1 ∧ ρ 1 ≤ 47 := (g0.1.1 (1, 0, 47) (by decide)).2
  have hN : hun h 48 ≤ N := (FlN_eq (Fl := Fl)).mp (g0.2.2.2.1 353 List.mem_cons_self)
  have h0 : h 129 (ρ 1).toNat = (0, 0) := by
    have := (g0.2.2.1 _ List.mem_cons_self).2.2.2
    have this : h 129 (ρ 1 + 0).toNat = (0, 0) := this
    rw [Int.add_zero] at this
    exact this
  have hs := hun_set (h := h) (k := (ρ 1).toNat) 48
  rw [if_pos ⟨by omega, by rw [h0]⟩] at hs
  exact ⟨N - 1, by omega, by omega⟩
theorem h_fam (B : bH o D Fl T) : ∀ N, aSpecO (o + N) aG1 D (FlN Fl N) T κh := by
  intro N
  induction N with
  | zero =>
    intro ρ h bs g has
    obtain ⟨N', e, -⟩ := h_in (Fl := Fl) (N := 0) g
    omega
  | succ N' ih =>
    intro ρ h bs g has
    obtain ⟨N'', e, hu⟩ := h_in (Fl := Fl) (N := N' + 1) g
    have e : N'' = N' := by omega
    subst e
    obtain ⟨z, z1, z2⟩ := h_enter (d := o + N'' + 3) B N'' (show aEnv ρ 2 k_377.2.2.1.2.1 [] from g.1) g.2.1 has hu
    obtain ⟨zr, r1, p, r2, ρ', r3, r4, r5, r6⟩ := h_body B N'' ih z1
    refine ⟨zr, zRun_d (z2 zr r1) (by show o + N'' + 3 = o + (N'' + 1) + 2; omega), p, r2, ρ', r3, r4, r5.fl (fun j _ hj => ?_), r6⟩
    by_cases e : j = 353
    · subst e
      exact FlN_eq.mpr (Nat.le_succ_of_le ((FlN_eq (Fl := Fl)).mp hj))
    · exact (FlN_ne e).mpr ((FlN_ne e).mp hj)
theorem hk_heapFrom (B : bH o D Fl T) : aSpecO o aG1 D Fl T k_377 := by
  intro ρ h bs g has
  have e1 : 0 ≤ ρ 1 ∧ ρ 1 ≤ 47 := (g.1.1 (1, 0, 47) (by decide)).2
  obtain ⟨z, z1, z2⟩ := h_enter (d := o + 47 + 3) B 47 (show aEnv ρ 2 k_377.2.2.1.2.1 [] from g.1) g.2.1 has (hun_mark (by omega))
  obtain ⟨zr, r1, p, r2, ρ', r3, r4, r5, r6⟩ := h_body B 47 (h_fam B 47) z1
  obtain ⟨p0, p1, p2⟩ := List.mem_map.mp (show p ∈ k_377.2.2.2.2.2.map (fun p => (qfl 353 p.1, p.2)) from r2)
  subst p2
  refine ⟨zr, zRun_d (z2 zr r1) (by show o + 47 + 3 = o + 50; omega), p0, p1, ρ', r3, r4, ⟨r5.1, r5.2.1, r5.2.2.1, fun j hj => ?_, r5.2.2.2.2.1, r5.2.2.2.2.2⟩, r6⟩
  have hj' := r5.2.2.2.1 j (List.mem_cons_of_mem _ hj)
  have : j ≠ 353 := by
    have : p0.1.2.2.2.2 = [] := by
      have : ∀ p ∈ k_377.2.2.2.2.2, p.1.2.2.2.2 = [] := by decide
      exact this p0 p1
    rw [this] at hj
    exact absurd hj List.not_mem_nil
  exact (FlN_ne this).mp hj'
end FA
end
section
/-! THE HANDS: doOne and doAll, by how much of done is left -/
def FlM (Fl : Nat → zH → Prop) (M : Nat) : Nat → zH → Prop := FlW Fl 354 (fun h => 300 - (M : Int) ≤ (h 121 43).2)
theorem FlM_eq {Fl : Nat → zH → Prop} {M : Nat} {h : zH} : FlM Fl M 354 h ↔ 300 - (M : Int) ≤ (h 121 43).2 := FlW_eq
theorem FlM_ne {Fl : Nat → zH → Prop} {M j : Nat} {h : zH} (hj : j ≠ 354) : FlM Fl M j h ↔ Fl j h := FlW_ne hj
noncomputable def κO : aK := kdp 11 (kfl 354 k_343)
noncomputable def κW : aK := kdp 13 (kfl 354 k_343)
noncomputable def κA : aK := kdp 12 (kfl 354 k_344)
noncomputable def sO : List aK := [κA, k_283, k_284, k_285, k_286, k_287, k_288, k_289, k_290, k_291, k_292, k_293, k_294, k_295, k_296, k_297, k_298, k_299, k_300, k_301, k_302, k_303, k_304, k_305, k_306, k_307, k_308, k_309, k_310, k_311, k_312, k_313, k_314, k_315, k_316, k_317, k_318, k_319, k_320, k_321, k_322, k_323, k_324, k_325, k_326, k_327, k_328, k_329, k_330, k_331, k_332, k_333, k_334, k_335, k_336, k_337, k_338, k_339, k_340, k_341, k_342]
noncomputable def cO : List aCut := c_343.map (cfl 354)
noncomputable def cA : List aCut := c_344.map (cfl 354)
theorem kO_in : a_from (aG0 aG1) aLm1 h_343 [] 100000 κO [c_343_0] zt_X12_doOne none 0 (κO.2.2.1, a_args κO.2.2.2.1 0, []) = true := by decide +kernel
theorem kA_ck : a_check (aG0 aG1) aLm1 h_344 [κO] 100000 κA cA = true := by decide +kernel
theorem kO_0 : a_ck1 (aG0 aG1) aLm1 h_343 sO 100000 κW cO (cfl 354 c_343_0) = true := by decide +kernel
theorem kO_1 : a_ck1 (aG0 aG1) aLm1 h_343 sO 100000 κW cO (cfl 354 c_343_1) = true := by decide +kernel
theorem kO_2 : a_ck1 (aG0 aG1) aLm1 h_343 sO 100000 κW cO (cfl 354 c_343_2) = true := by decide +kernel
theorem kO_3 : a_ck1 (aG0 aG1) aLm1 h_343 sO 100000 κW cO (cfl 354 c_343_3) = true := by decide +kernel
theorem kO_4 : a_ck1 (aG0 aG1) aLm1 h_343 sO 100000 κW cO (cfl 354 c_343_4) = true := by decide +kernel
theorem kO_5 : a_ck1 (aG0 aG1) aLm1 h_343 sO 100000 κW cO (cfl 354 c_343_5) = true := by decide +kernel
theorem kO_6 : a_ck1 (aG0 aG1) aLm1 h_343 sO 100000 κW cO (cfl 354 c_343_6) = true := by decide +kernel
theorem kO_7 : a_ck1 (aG0 aG1) aLm1 h_343 sO 100000 κW cO (cfl 354 c_343_7) = true := by decide +kernel
theorem kO_8 : a_ck1 (aG0 aG1) aLm1 h_343 sO 100000 κW cO (cfl 354 c_343_8) = true := by decide +kernel
theorem kO_9 : a_ck1 (aG0 aG1) aLm1 h_343 sO 100000 κW cO (cfl 354 c_343_9) = true := by decide +kernel
theorem kO_10 : a_ck1 (aG0 aG1) aLm1 h_343 sO 100000 κW cO (cfl 354 c_343_10) = true := by decide +kernel
theorem kO_11 : a_ck1 (aG0 aG1) aLm1 h_343 sO 100000 κW cO (cfl 354 c_343_11) = true := by decide +kernel
theorem kO_12 : a_ck1 (aG0 aG1) aLm1 h_343 sO 100000 κW cO (cfl 354 c_343_12) = true := by decide +kernel
theorem kO_13 : a_ck1 (aG0 aG1) aLm1 h_343 sO 100000 κW cO (cfl 354 c_343_13) = true := by decide +kernel
theorem kO_14 : a_ck1 (aG0 aG1) aLm1 h_343 sO 100000 κW cO (cfl 354 c_343_14) = true := by decide +kernel
theorem kO_15 : a_ck1 (aG0 aG1) aLm1 h_343 sO 100000 κW cO (cfl 354 c_343_15) = true := by decide +kernel
theorem kO_16 : a_ck1 (aG0 aG1) aLm1 h_343 sO 100000 κW cO (cfl 354 c_343_16) = true := by decide +kernel
theorem kO_17 : a_ck1 (aG0 aG1) aLm1 h_343 sO 100000 κW cO (cfl 354 c_343_17) = true := by decide +kernel
theorem kO_18 : a_ck1 (aG0 aG1) aLm1 h_343 sO 100000 κW cO (cfl 354 c_343_18) = true := by decide +kernel
theorem kO_19 : a_ck1 (aG0 aG1) aLm1 h_343 sO 100000 κW cO (cfl 354 c_343_19) = true := by decide +kernel
theorem kO_20 : a_ck1 (aG0 aG1) aLm1 h_343 sO 100000 κW cO (cfl 354 c_343_20) = true := by decide +kernel
theorem kO_21 : a_ck1 (aG0 aG1) aLm1 h_343 sO 100000 κW cO (cfl 354 c_343_21) = true := by decide +kernel
theorem kO_22 : a_ck1 (aG0 aG1) aLm1 h_343 sO 100000 κW cO (cfl 354 c_343_22) = true := by decide +kernel
theorem kO_23 : a_ck1 (aG0 aG1) aLm1 h_343 sO 100000 κW cO (cfl 354 c_343_23) = true := by decide +kernel
theorem kO_24 : a_ck1 (aG0 aG1) aLm1 h_343 sO 100000 κW cO (cfl 354 c_343_24) = true := by decide +kernel
theorem kO_25 : a_ck1 (aG0 aG1) aLm1 h_343 sO 100000 κW cO (cfl 354 c_343_25) = true := by decide +kernel
theorem kO_26 : a_ck1 (aG0 aG1) aLm1 h_343 sO 100000 κW cO (cfl 354 c_343_26) = true := by decide +kernel
theorem kO_27 : a_ck1 (aG0 aG1) aLm1 h_343 sO 100000 κW cO (cfl 354 c_343_27) = true := by decide +kernel
theorem kO_28 : a_ck1 (aG0 aG1) aLm1 h_343 sO 100000 κW cO (cfl 354 c_343_28) = true := by decide +kernel
theorem kO_29 : a_ck1 (aG0 aG1) aLm1 h_343 sO 100000 κW cO (cfl 354 c_343_29) = true := by decide +kernel
theorem kO_30 : a_ck1 (aG0 aG1) aLm1 h_343 sO 100000 κW cO (cfl 354 c_343_30) = true := by decide +kernel
theorem kO_31 : a_ck1 (aG0 aG1) aLm1 h_343 sO 100000 κW cO (cfl 354 c_343_31) = true := by decide +kernel
theorem kO_32 : a_ck1 (aG0 aG1) aLm1 h_343 sO 100000 κW cO (cfl 354 c_343_32) = true := by decide +kernel
theorem kO_33 : a_ck1 (aG0 aG1) aLm1 h_343 sO 100000 κW cO (cfl 354 c_343_33) = true := by decide +kernel
theorem kO_34 : a_ck1 (aG0 aG1) aLm1 h_343 sO 100000 κW cO (cfl 354 c_343_34) = true := by decide +kernel
theorem kO_35 : a_ck1 (aG0 aG1) aLm1 h_343 sO 100000 κW cO (cfl 354 c_343_35) = true := by decide +kernel
theorem kO_36 : a_ck1 (aG0 aG1) aLm1 h_343 sO 100000 κW cO (cfl 354 c_343_36) = true := by decide +kernel
theorem kO_37 : a_ck1 (aG0 aG1) aLm1 h_343 sO 100000 κW cO (cfl 354 c_343_37) = true := by decide +kernel
theorem kO_38 : a_ck1 (aG0 aG1) aLm1 h_343 sO 100000 κW cO (cfl 354 c_343_38) = true := by decide +kernel
theorem kO_39 : a_ck1 (aG0 aG1) aLm1 h_343 sO 100000 κW cO (cfl 354 c_343_39) = true := by decide +kernel
theorem kO_40 : a_ck1 (aG0 aG1) aLm1 h_343 sO 100000 κW cO (cfl 354 c_343_40) = true := by decide +kernel
theorem kO_41 : a_ck1 (aG0 aG1) aLm1 h_343 sO 100000 κW cO (cfl 354 c_343_41) = true := by decide +kernel
theorem kO_42 : a_ck1 (aG0 aG1) aLm1 h_343 sO 100000 κW cO (cfl 354 c_343_42) = true := by decide +kernel
theorem kO_43 : a_ck1 (aG0 aG1) aLm1 h_343 sO 100000 κW cO (cfl 354 c_343_43) = true := by decide +kernel
theorem kO_44 : a_ck1 (aG0 aG1) aLm1 h_343 sO 100000 κW cO (cfl 354 c_343_44) = true := by decide +kernel
theorem kO_45 : a_ck1 (aG0 aG1) aLm1 h_343 sO 100000 κW cO (cfl 354 c_343_45) = true := by decide +kernel
theorem kO_46 : a_ck1 (aG0 aG1) aLm1 h_343 sO 100000 κW cO (cfl 354 c_343_46) = true := by decide +kernel
theorem kO_47 : a_ck1 (aG0 aG1) aLm1 h_343 sO 100000 κW cO (cfl 354 c_343_47) = true := by decide +kernel
theorem kO_48 : a_ck1 (aG0 aG1) aLm1 h_343 sO 100000 κW cO (cfl 354 c_343_48) = true := by decide +kernel
theorem kO_49 : a_ck1 (aG0 aG1) aLm1 h_343 sO 100000 κW cO (cfl 354 c_343_49) = true := by decide +kernel
theorem kO_50 : a_ck1 (aG0 aG1) aLm1 h_343 sO 100000 κW cO (cfl 354 c_343_50) = true := by decide +kernel
theorem kO_51 : a_ck1 (aG0 aG1) aLm1 h_343 sO 100000 κW cO (cfl 354 c_343_51) = true := by decide +kernel
theorem kO_52 : a_ck1 (aG0 aG1) aLm1 h_343 sO 100000 κW cO (cfl 354 c_343_52) = true := by decide +kernel
theorem kO_53 : a_ck1 (aG0 aG1) aLm1 h_343 sO 100000 κW cO (cfl 354 c_343_53) = true := by decide +kernel
theorem kO_54 : a_ck1 (aG0 aG1) aLm1 h_343 sO 100000 κW cO (cfl 354 c_343_54) = true := by decide +kernel
theorem kO_55 : a_ck1 (aG0 aG1) aLm1 h_343 sO 100000 κW cO (cfl 354 c_343_55) = true := by decide +kernel
theorem kO_56 : a_ck1 (aG0 aG1) aLm1 h_343 sO 100000 κW cO (cfl 354 c_343_56) = true := by decide +kernel
theorem kO_57 : a_ck1 (aG0 aG1) aLm1 h_343 sO 100000 κW cO (cfl 354 c_343_57) = true := by decide +kernel
theorem kO_58 : a_ck1 (aG0 aG1) aLm1 h_343 sO 100000 κW cO (cfl 354 c_343_58) = true := by decide +kernel
theorem kO_59 : a_ck1 (aG0 aG1) aLm1 h_343 sO 100000 κW cO (cfl 354 c_343_59) = true := by decide +kernel
theorem kO_60 : a_ck1 (aG0 aG1) aLm1 h_343 sO 100000 κW cO (cfl 354 c_343_60) = true := by decide +kernel
set_option maxRecDepth 100000 in
theorem kO_all : ∀ c ∈ cO, a_ck1 (aG0 aG1) aLm1 h_343 sO 100000 κW cO c = true := (List.forall_mem_cons.mpr ⟨kO_0, (List.forall_mem_cons.mpr ⟨kO_1, (List.forall_mem_cons.mpr ⟨kO_2, (List.forall_mem_cons.mpr ⟨kO_3, (List.forall_mem_cons.mpr ⟨kO_4, (List.forall_mem_cons.mpr ⟨kO_5, (List.forall_mem_cons.mpr ⟨kO_6, (List.forall_mem_cons.mpr ⟨kO_7, (List.forall_mem_cons.mpr ⟨kO_8, (List.forall_mem_cons.mpr ⟨kO_9, (List.forall_mem_cons.mpr ⟨kO_10, (List.forall_mem_cons.mpr ⟨kO_11, (List.forall_mem_cons.mpr ⟨kO_12, (List.forall_mem_cons.mpr ⟨kO_13, (List.forall_mem_cons.mpr ⟨kO_14, (List.forall_mem_cons.mpr ⟨kO_15, (List.forall_mem_cons.mpr ⟨kO_16, (List.forall_mem_cons.mpr ⟨kO_17, (List.forall_mem_cons.mpr ⟨kO_18, (List.forall_mem_cons.mpr ⟨kO_19, (List.forall_mem_cons.mpr ⟨kO_20, (List.forall_mem_cons.mpr ⟨kO_21, (List.forall_mem_cons.mpr ⟨kO_22, (List.forall_mem_cons.mpr ⟨kO_23, (List.forall_mem_cons.mpr ⟨kO_24, (List.forall_mem_cons.mpr ⟨kO_25, (List.forall_mem_cons.mpr ⟨kO_26, (List.forall_mem_cons.mpr ⟨kO_27, (List.forall_mem_cons.mpr ⟨kO_28, (List.forall_mem_cons.mpr ⟨kO_29, (List.forall_mem_cons.mpr ⟨kO_30, (List.forall_mem_cons.mpr ⟨kO_31, (List.forall_mem_cons.mpr ⟨kO_32, (List.forall_mem_cons.mpr ⟨kO_33, (List.forall_mem_cons.mpr ⟨kO_34, (List.forall_mem_cons.mpr ⟨kO_35, (List.forall_mem_cons.mpr ⟨kO_36, (List.forall_mem_cons.mpr ⟨kO_37, (List.forall_mem_cons.mpr ⟨kO_38, (List.forall_mem_cons.mpr ⟨kO_39, (List.forall_mem_cons.mpr ⟨kO_40, (List.forall_mem_cons.mpr ⟨kO_41, (List.forall_mem_cons.mpr ⟨kO_42, (List.forall_mem_cons.mpr ⟨kO_43, (List.forall_mem_cons.mpr ⟨kO_44, (List.forall_mem_cons.mpr ⟨kO_45, (List.forall_mem_cons.mpr ⟨kO_46, (List.forall_mem_cons.mpr ⟨kO_47, (List.forall_mem_cons.mpr ⟨kO_48, (List.forall_mem_cons.mpr ⟨kO_49, (List.forall_mem_cons.mpr ⟨kO_50, (List.forall_mem_cons.mpr ⟨kO_51, (List.forall_mem_cons.mpr ⟨kO_52, (List.forall_mem_cons.mpr ⟨kO_53, (List.forall_mem_cons.mpr ⟨kO_54, (List.forall_mem_cons.mpr ⟨kO_55, (List.forall_mem_cons.mpr ⟨kO_56, (List.forall_mem_cons.mpr ⟨kO_57, (List.forall_mem_cons.mpr ⟨kO_58, (List.forall_mem_cons.mpr ⟨kO_59, (List.forall_mem_cons.mpr ⟨kO_60, fun _ h => absurd h List.not_mem_nil⟩)⟩)⟩)⟩)⟩)⟩)⟩)⟩)⟩)⟩)⟩)⟩)⟩)⟩)⟩)⟩)⟩)⟩)⟩)⟩)⟩)⟩)⟩)⟩)⟩)⟩)⟩)⟩)⟩)⟩)⟩)⟩)⟩)⟩)⟩)⟩)⟩)⟩)⟩)⟩)⟩)⟩)⟩)⟩)⟩)⟩)⟩)⟩)⟩)⟩)⟩)⟩)⟩)⟩)⟩)⟩)⟩)⟩)⟩)⟩)⟩)
section FB
variable {o : Nat} {D : zD} {Fl : Nat → zH → Prop} {T : zT}
theorem bH_M (B : bH o D Fl T) (o' M : Nat) : bH o' D (FlM Fl M) T := by
  refine ⟨fun h m => aOK_W (B.1 h m) (by omega) (s := [(121, 43, 43)]) rfl (fun h1 h2 he hp => ?_), fun h m => aFlOK_W (B.2.1 h m) (by omega), fun h m => B.2.2.1 h m, B.2.2.2⟩
  rw [he 121 43 ⟨(121, 43, 43), List.mem_cons_self, rfl, Nat.le_refl _, Nat.le_refl _⟩]
  exact hp
-- what doOne calls, but for doAll
def bD (o : Nat) (D : zD) (T : zT) (Fl : Nat → zH → Prop) : Prop := ∀ κ ∈ ([k_283, k_284, k_285, k_286, k_287, k_288, k_289, k_290, k_291, k_292, k_293, k_294, k_295, k_296, k_297, k_298, k_299, k_300, k_301, k_302, k_303, k_304, k_305, k_306, k_307, k_308, k_309, k_310, k_311, k_312, k_313, k_314, k_315, k_316, k_317, k_318, k_319, k_320, k_321, k_322, k_323, k_324, k_325, k_326, k_327, k_328, k_329, k_330, k_331, k_332, k_333, k_334, k_335, k_336, k_337, k_338, k_339, k_340, k_341, k_342] : List aK), ∀ M o', aSpecO o' aG1 D (FlM Fl M) T κ
theorem o_step (B : bH o D Fl T) (hD : bD o D T Fl) (M : Nat) (ih : ∀ M', M = M' + 1 → aSpecO (o + 2 * M') aG1 D (FlM Fl M') T κA) : aSpecO (o + 2 * M) aG1 D (FlM Fl M) T κO := by
  intro ρ h bs g has
  have g0 : aDen (aG0 aG1, D, FlM Fl M, h, k_343.2.2.2.2.1) ρ κO.2.2.1 h := g
  have BM := bH_M B (o + 2 * M) M
  have hlm := aLmR_ok (BM.1 h k_343.2.2.2.2.1) (BM.2.1 h k_343.2.2.2.2.1) (BM.2.2.1 h k_343.2.2.2.2.1)
  rcases a_from_ok (X := (aG0 aG1, D, FlM Fl M, h, k_343.2.2.2.2.1)) (o := o + 2 * M) (κ := κO) (BM.1 _ _) (fun κ hκ => absurd hκ List.not_mem_nil) B.2.2.2 hlm (hm_doOne B.2.2.2) rfl kO_in (Nat.le_refl 2) (z := (h, zargs 0 bs, [])) ⟨g0, (a_args_ok 0 has).2, trivial⟩ with hg | ⟨c, hc, σ, z', b1, b2, b3, b4, -⟩
  · exact hg
  · rw [List.mem_singleton.mp hc] at b3 b4 b2
    have e1 : σ 1 = ρ 1 := b1 1 (by show 1 < 2; omega)
    have hd : h 121 43 = (0, ρ 1) := by
      have := (g0.2.2.1 ((121, 0, 43), (0, 2, 0)) (List.mem_cons_of_mem _ List.mem_cons_self)).2.2.2
      have this : h 121 43 = (0, ρ 1 + 0) := this
      rw [Int.add_zero] at this
      exact this
    have hM : 300 - (M : Int) ≤ ρ 1 := by
      have := (FlM_eq (Fl := Fl)).mp (g0.2.2.2.1 354 List.mem_cons_self)
      rw [hd] at this
      exact this
    have hb : σ 1 ≤ 299 := (b3.1.1.1 (1, 0, 299) List.mem_cons_self).2.2
    have hd' : z'.1 121 43 = (0, σ 1 + 1) := (b3.1.2.2.1 ((121, 0, 43), (0, 2, 1)) (by decide)).2.2.2
    obtain ⟨M', rfl⟩ : ∃ M', M = M' + 1 := ⟨M - 1, by omega⟩
    have BM' := bH_M B (o + 2 * M') M'
    have hlm' := aLmR_ok (BM'.1 h k_343.2.2.2.2.1) (BM'.2.1 h k_343.2.2.2.2.1) (BM'.2.2.1 h k_343.2.2.2.2.1)
    have hK : ∀ κ ∈ sO, aSpecO (o + 2 * M') aG1 D (FlM Fl M') T κ := List.forall_mem_cons.mpr ⟨ih M' rfl, fun κ hκ => hD κ hκ M' _⟩
    have hc1 : ∀ c ∈ cO, a_all (fun x => a_scp c.2.1.1.1 x.1) c.2.2 = true ∧ a_from (aG0 aG1) aLm1 h_343 sO 100000 κW cO zt_X12_doOne (some c.2.2) c.1 c.2.1 = true := fun c hc => by
      have := kO_all c hc
      unfold a_ck1 at this
      rw [show x_nth zMT κW.1 = some zt_X12_doOne from rfl] at this
      exact (Bool.and_eq_true _ _ ▸ this : _ ∧ _)
    have all := a_cutsH_ok (X := (aG0 aG1, D, FlM Fl M', h, k_343.2.2.2.2.1)) (o := o + 2 * M') (κ := κW) (cuts := cO) (BM'.1 _ _) hK B.2.2.2 hlm' (hm_doOne B.2.2.2) rfl (fun _ => false) (fun c hc => (hc1 c hc).1) (fun c hc _ => (hc1 c hc).2) (fun c _ h => absurd h Bool.false_ne_true)
    have g1 : aStD (aG0 aG1, D, FlM Fl M', h, k_343.2.2.2.2.1) σ (cfl 354 c_343_0).2.1 z' := by
      refine ⟨aDen.qfl (aDen.fl b3.1 (fun j hj hf => ?_)) (FlM_eq.mpr ?_), b3.2⟩
      · have : j ≠ 354 := by
          have : ∀ j ∈ c_343_0.2.1.1.2.2.2.2, j ≠ 354 := by decide
          exact this j hj
        exact (FlM_ne this).mpr ((FlM_ne this).mp hf)
      · rw [hd']
        show _ ≤ σ 1 + 1
        omega
    obtain ⟨zr, r1, p, r2, ρ', r3, r4, r5, r6⟩ := all (cfl 354 c_343_0) List.mem_cons_self (Nat.le_refl 2) σ z' g1
    refine ⟨zr, b4 zr (zRun_d r1 (by show o + 2 * M' + 13 = o + 2 * (M' + 1) + 11; omega)), p, r2, ρ', fun i hi => (r3 i hi).trans (b1 i hi), r4, r5.fl (fun j _ hj => ?_), r6⟩
    by_cases e : j = 354
    · subst e
      have := (FlM_eq (Fl := Fl)).mp hj
      exact FlM_eq.mpr (by omega)
    · exact (FlM_ne e).mpr ((FlM_ne e).mp hj)
theorem a_step (B : bH o D Fl T) (M : Nat) (hO : aSpecO (o + 2 * M) aG1 D (FlM Fl M) T κO) : aSpecO (o + 2 * M) aG1 D (FlM Fl M) T κA := by
  have BM := bH_M B (o + 2 * M) M
  exact a_check_sound BM.1 B.2.2.2 (fun h m => aLmR_ok (BM.1 h m) (BM.2.1 h m) (BM.2.2.1 h m)) kA_ck (List.forall_mem_cons.mpr ⟨hO, fun _ h => absurd h List.not_mem_nil⟩)
theorem oa_fam (B : bH o D Fl T) (hD : bD o D T Fl) : ∀ M, aSpecO (o + 2 * M) aG1 D (FlM Fl M) T κA := by
  intro M
  induction M with
  | zero => exact a_step B 0 (o_step B hD 0 (fun M' e => by omega))
  | succ M ih => exact a_step B (M + 1) (o_step B hD (M + 1) (fun M' e => by
      have : M' = M := by omega
      rw [this]
      exact ih))
theorem hk_doAll (B : bH o D Fl T) (hD : bD o D T Fl) : aSpecO o aG1 D Fl T k_344 := by
  intro ρ h bs g has
  have ht : aTyped aTy1 h := g.2.1
  have t43 : 0 ≤ (h 121 43).2 := (tyI_ok (lo := 43) (hi := 43) (k := 0) (a := 0) (b := 300) (tt_121 ht) (by decide +kernel) 43 (Nat.le_refl _) (Nat.le_refl _)).2.1
  have gq : aDen (aG0 aG1, D, FlM Fl 300, h, k_344.2.2.2.2.1) ρ κA.2.2.1 h := aDen.qfl (aDen.fl g (fun j hj hf => by
    have : j ≠ 354 := by
      have : ∀ j ∈ k_344.2.2.1.2.2.2.2, j ≠ 354 := by decide
      exact this j hj
    exact (FlM_ne this).mpr hf)) (FlM_eq.mpr (by show 300 - (300 : Int) ≤ _; omega))
  obtain ⟨zr, r1, p, r2, ρ', r3, r4, r5, r6⟩ := oa_fam B hD 300 ρ h bs gq has
  obtain ⟨p0, p1, p2⟩ := List.mem_map.mp (show p ∈ k_344.2.2.2.2.2.map (fun p => (qfl 354 p.1, p.2)) from r2)
  subst p2
  refine ⟨zr, zRun_d r1 (by show o + 2 * 300 + 12 = o + (600 + 12); omega), p0, p1, ρ', r3, r4, ⟨r5.1, r5.2.1, r5.2.2.1, fun j hj => ?_, r5.2.2.2.2.1, r5.2.2.2.2.2⟩, r6⟩
  have hj' := r5.2.2.2.1 j (List.mem_cons_of_mem _ hj)
  have : j ≠ 354 := by
    have : ∀ p ∈ k_344.2.2.2.2.2, ∀ j ∈ p.1.2.2.2.2, j ≠ 354 := by decide
    exact this p0 p1 j hj
  exact (FlM_ne this).mp hj'
end FB
/-! avoids: its cut at 98 is run by hand -/
noncomputable def stV : aS := ((c_541_7.2.1.1.1 + 1, (c_541_7.2.1.1.1, 0, 47) :: c_541_7.2.1.1.2.1, c_541_7.2.1.1.2.2), (7, (0, c_541_7.2.1.1.1 + 1, 0)) :: c_541_7.2.1.2.1, [])
theorem kv_m : a_cutOK (aG0 aG1) k_541.2.2.1.1 (some c_541_7.2.2) stV c_541_8 = true := by decide +kernel
theorem kv_s : a_all (fun c : aCut => a_all (fun x => a_scp c.2.1.1.1 x.1) c.2.2) c_541 = true := by decide +kernel
section FV
variable {o : Nat} {D : zD} {Fl : Nat → zH → Prop} {T : zT}
theorem v_98 (B : bH o D Fl T) {h0 : zH} {ρ : Nat → Int} {z : zS} (g : aStD (aG0 aG1, D, Fl, h0, k_541.2.2.2.2.1) ρ c_541_7.2.1 z) : ∃ z' ρ', aAg ρ ρ' c_541_7.2.1.1.1 ∧ aStD (aG0 aG1, D, Fl, h0, k_541.2.2.2.2.1) ρ' stV z' ∧ ∀ zr, zRun D T (o + 2 + 1) 198 124 z' zr → zRun D T (o + 2 + 1) 198 98 z zr := by
  obtain ⟨h, L, S⟩ := z
  have hp := hHp_of (B.2.2.1 h0 [] h g.1.2.1).1 g.1.2.1
  have hm := hm_avoids (T := T) B.2.2.2
  have hS : S = [] := by
    match S, g.2.2 with
    | [], _ => rfl
  subst hS
  have e3 : 0 ≤ ρ 3 ∧ ρ 3 ≤ 3 := (g.1.1.1 (3, 0, 3) (by decide)).2
  have e4 : 0 ≤ ρ 4 ∧ ρ 4 ≤ 47 := (g.1.1.1 (4, 0, 47) (by decide)).2
  obtain ⟨z0, l0, r0⟩ := g.2.1 (0, (2, 0, 121)) (by decide)
  obtain ⟨z5, l5, r5⟩ := g.2.1 (5, (0, 5, 0)) (by decide)
  obtain ⟨z6, l6, r6⟩ := g.2.1 (6, (0, 4, 0)) (by decide)
  have l0 : L 0 = some (2, 121) := by rw [show L 0 = some z0 from l0, r0.2]; rfl
  have l5 : L 5 = some (0, ρ 4) := by rw [show L 5 = some z5 from l5, r5.2]; show some (0, ρ 4 + 0) = _; rw [Int.add_zero]
  have l6 : L 6 = some (0, ρ 3) := by rw [show L 6 = some z6 from l6, r6.2]; show some (0, ρ 3 + 0) = _; rw [Int.add_zero]
  have bb := bE_b hp (ρ 4) (ρ 3)
  have fin : ∀ to : Int, 0 ≤ to → to ≤ 47 → (∀ zr, zRun D T (o + 2 + 1) 198 124 (h, zput1 L 7 (0, to), []) zr → zRun D T (o + 2 + 1) 198 98 (h, L, []) zr) → ∃ z' ρ', aAg ρ ρ' c_541_7.2.1.1.1 ∧ aStD (aG0 aG1, D, Fl, h0, k_541.2.2.2.2.1) ρ' stV z' ∧ ∀ zr, zRun D T (o + 2 + 1) 198 124 z' zr → zRun D T (o + 2 + 1) 198 98 (h, L, []) zr := by
    intro to t1 t2 hz
    refine ⟨(h, zput1 L 7 (0, to), []), aup ρ c_541_7.2.1.1.1 to, aup_ag ρ _ to, ⟨g.1.push t1 t2, fun q hq => ?_, trivial⟩, hz⟩
    rcases List.mem_cons.mp hq with e | e
    · rw [e]
      refine ⟨(0, to), (by show zput1 L 7 (0, to) 7 = some (0, to); unfold zput1; rw [if_pos rfl]), Nat.le_refl _, ?_⟩
      show (0, to) = (0, aup ρ c_541_7.2.1.1.1 to c_541_7.2.1.1.1 + 0)
      rw [aup_at, Int.add_zero]
    · obtain ⟨w, w1, w2⟩ := g.2.1 q e
      have hq7 : ∀ q ∈ c_541_7.2.1.2.1, q.1 ≠ 7 ∧ q.2.1 ≠ 1 := by decide
      obtain ⟨n1, n2⟩ := hq7 q e
      refine ⟨w, ?_, w2.mono (Nat.le_succ _) (aup_ag ρ _ to)⟩
      show (if q.1 = 7 then _ else match L q.1 with
        | some w => if q.1 + 1 = 7 ∧ zcat w = 2 then none else some w
        | none => none) = some w
      have w1' : L q.1 = some w := w1
      rw [if_neg n1, w1']
      refine if_neg (fun c => ?_)
      have c2 : (if w.1 = 1 then 2 else 1) = 2 := c.2
      rw [if_neg (by rw [w2.2]; exact n2)] at c2
      omega
  by_cases e : bE h (ρ 4) (ρ 3) < 0
  · refine fin (ρ 4) e4.1 e4.2 (fun zr k => ?_)
    refine hq_load (hm _ _ rfl) l0 rfl ?_
    refine hq_load (hm _ _ rfl) l5 rfl ?_
    refine hq_load (hm _ _ rfl) l6 rfl ?_
    refine hq_call (hm _ _ rfl) rfl ⟨Nat.le_of_ble_eq_true rfl, Nat.le_of_ble_eq_true rfl, fun _ => rfl⟩ (r_beside (d := o) B.2.2.2 hp e4.1 (by omega)) ?_
    refine hq_ifT (hm _ _ rfl) (zr0T e) ?_
    refine hq_load (hm _ _ rfl) l5 rfl ?_
    refine hq_goto (hm _ _ rfl) ?_
    refine hq_store (hm _ _ rfl) ⟨rfl, Nat.ne_of_beq_eq_false rfl⟩ ?_
    exact k
  · refine fin (bE h (ρ 4) (ρ 3)) (by omega) (by omega) (fun zr k => ?_)
    refine hq_load (hm _ _ rfl) l0 rfl ?_
    refine hq_load (hm _ _ rfl) l5 rfl ?_
    refine hq_load (hm _ _ rfl) l6 rfl ?_
    refine hq_call (hm _ _ rfl) rfl ⟨Nat.le_of_ble_eq_true rfl, Nat.le_of_ble_eq_true rfl, fun _ => rfl⟩ (r_beside (d := o) B.2.2.2 hp e4.1 (by omega)) ?_
    refine hq_ifF (hm _ _ rfl) (zr0F (by omega)) ?_
    refine hq_load (hm _ _ rfl) l0 rfl ?_
    refine hq_load (hm _ _ rfl) l5 rfl ?_
    refine hq_load (hm _ _ rfl) l6 rfl ?_
    refine hq_call (hm _ _ rfl) rfl ⟨Nat.le_of_ble_eq_true rfl, Nat.le_of_ble_eq_true rfl, fun _ => rfl⟩ (r_beside (d := o) B.2.2.2 hp e4.1 (by omega)) ?_
    refine hq_store (hm _ _ rfl) ⟨rfl, Nat.ne_of_beq_eq_false rfl⟩ ?_
    exact k
theorem kv_c : ∀ c ∈ c_541, Nat.beq c.1 98 = false → a_from (aG0 aG1) aLm1 h_541 [] 100000 k_541 c_541 zt_X12_avoids (some c.2.2) c.1 c.2.1 = true := by
  have two : ∀ c, a_ck1 (aG0 aG1) aLm1 h_541 [] 100000 k_541 c_541 c = true → a_from (aG0 aG1) aLm1 h_541 [] 100000 k_541 c_541 zt_X12_avoids (some c.2.2) c.1 c.2.1 = true := fun c h => by
    unfold a_ck1 at h
    rw [show x_nth zMT k_541.1 = some zt_X12_avoids from rfl] at h
    exact (Bool.and_eq_true _ _ ▸ h : _ ∧ _).2
  exact List.forall_mem_cons.mpr ⟨(fun _ => two _ kd_541_0), List.forall_mem_cons.mpr ⟨(fun _ => two _ kd_541_1), List.forall_mem_cons.mpr ⟨(fun _ => two _ kd_541_2), List.forall_mem_cons.mpr ⟨(fun _ => two _ kd_541_3), List.forall_mem_cons.mpr ⟨(fun _ => two _ kd_541_4), List.forall_mem_cons.mpr ⟨(fun _ => two _ kd_541_5), List.forall_mem_cons.mpr ⟨(fun _ => two _ kd_541_6), List.forall_mem_cons.mpr ⟨(fun h => Bool.noConfusion (show true = false from h)), List.forall_mem_cons.mpr ⟨(fun _ => two _ kd_541_8), (fun _ h => absurd h List.not_mem_nil)⟩⟩⟩⟩⟩⟩⟩⟩⟩
theorem hk_avoids (B : bH o D Fl T) : aSpecO o aG1 D Fl T k_541 := by
  intro ρ h bs g has
  have hlm := aLmR_ok (B.1 h k_541.2.2.2.2.1) (B.2.1 h k_541.2.2.2.2.1) (B.2.2.1 h k_541.2.2.2.2.1)
  have hK : ∀ κ ∈ ([] : List aK), aSpecO o aG1 D Fl T κ := fun κ hκ => absurd hκ List.not_mem_nil
  have k0 := kd_541
  unfold a_ck0 at k0
  rw [show x_nth zMT k_541.1 = some zt_X12_avoids from rfl] at k0
  have all := a_cutsH_ok (X := (aG0 aG1, D, Fl, h, k_541.2.2.2.2.1)) (o := o) (κ := k_541) (cuts := c_541) (B.1 _ _) hK B.2.2.2 hlm (hm_avoids B.2.2.2) rfl (fun pc => Nat.beq pc 98) (fun c hc => a_all_ok kv_s c hc) kv_c (fun c hc h98 hk ρ z g => by
    have only : ∀ c ∈ c_541, Nat.beq c.1 98 = true → c = c_541_7 := List.forall_mem_cons.mpr ⟨(fun h => absurd h Bool.false_ne_true), List.forall_mem_cons.mpr ⟨(fun h => absurd h Bool.false_ne_true), List.forall_mem_cons.mpr ⟨(fun h => absurd h Bool.false_ne_true), List.forall_mem_cons.mpr ⟨(fun h => absurd h Bool.false_ne_true), List.forall_mem_cons.mpr ⟨(fun h => absurd h Bool.false_ne_true), List.forall_mem_cons.mpr ⟨(fun h => absurd h Bool.false_ne_true), List.forall_mem_cons.mpr ⟨(fun h => absurd h Bool.false_ne_true), List.forall_mem_cons.mpr ⟨(fun _ => rfl), List.forall_mem_cons.mpr ⟨(fun h => absurd h Bool.false_ne_true), (fun _ h => absurd h List.not_mem_nil)⟩⟩⟩⟩⟩⟩⟩⟩⟩
    rw [only c hc h98] at g hk ⊢
    obtain ⟨z', ρ', a1, a2, a3⟩ := v_98 B g
    exact Or.inr (aNext.of (c := c_541_8) (List.mem_cons_of_mem _ (List.mem_cons_of_mem _ (List.mem_cons_of_mem _ (List.mem_cons_of_mem _ (List.mem_cons_of_mem _ (List.mem_cons_of_mem _ (List.mem_cons_of_mem _ (List.mem_cons_of_mem _ List.mem_cons_self)))))))) kv_m (by show 3 ≤ c_541_7.2.1.1.1 + 1; decide) a1 hk a2 a3))
  rcases a_from_ok (X := (aG0 aG1, D, Fl, h, k_541.2.2.2.2.1)) (o := o) (κ := k_541) (B.1 _ _) hK B.2.2.2 hlm (hm_avoids B.2.2.2) rfl k0 (Nat.le_refl 3) (z := (h, zargs 0 bs, [])) ⟨g, (a_args_ok 0 has).2, trivial⟩ with hg | ⟨c, hc, σ, z', b1, b2, b3, b4, -⟩
  · exact hg
  · exact (all c hc b2 σ z' b3).back b1 b4
end FV
end
section
/-! ALL HANDS -/
section HA
variable {o : Nat} {D : zD} {Fl : Nat → zH → Prop} {T : zT}
theorem kH_of (B : bH o D Fl T) : kH o D Fl T := ⟨B.1, B.2.1, B.2.2.1, B.2.2.2, hk_tellCompany B, hk_beside B, hk_wayOf B, hk_heapFrom B, hk_avoids B, trivial⟩
theorem bD_of (B : bH o D Fl T) : bD o D T Fl := by
  have h : ∀ κ ∈ ([k_283, k_284, k_285, k_286, k_287, k_288, k_289, k_290, k_291, k_292, k_293, k_294, k_295, k_296, k_297, k_298, k_299, k_300, k_301, k_302, k_303, k_304, k_305, k_306, k_307, k_308, k_309, k_310, k_311, k_312, k_313, k_314, k_315, k_316, k_317, k_318, k_319, k_320, k_321, k_322, k_323, k_324, k_325, k_326, k_327, k_328, k_329, k_330, k_331, k_332, k_333, k_334, k_335, k_336, k_337, k_338, k_339, k_340, k_341, k_342] : List aK), ∀ M o', aSpecO o' aG1 D (FlM Fl M) T κ := (List.forall_mem_cons.mpr ⟨fun M o' => ko_283 (kH_of (bH_M B o' M)), (List.forall_mem_cons.mpr ⟨fun M o' => ko_284 (kH_of (bH_M B o' M)), (List.forall_mem_cons.mpr ⟨fun M o' => ko_285 (kH_of (bH_M B o' M)), (List.forall_mem_cons.mpr ⟨fun M o' => ko_286 (kH_of (bH_M B o' M)), (List.forall_mem_cons.mpr ⟨fun M o' => ko_287 (kH_of (bH_M B o' M)), (List.forall_mem_cons.mpr ⟨fun M o' => ko_288 (kH_of (bH_M B o' M)), (List.forall_mem_cons.mpr ⟨fun M o' => ko_289 (kH_of (bH_M B o' M)), (List.forall_mem_cons.mpr ⟨fun M o' => ko_290 (kH_of (bH_M B o' M)), (List.forall_mem_cons.mpr ⟨fun M o' => ko_291 (kH_of (bH_M B o' M)), (List.forall_mem_cons.mpr ⟨fun M o' => ko_292 (kH_of (bH_M B o' M)), (List.forall_mem_cons.mpr ⟨fun M o' => ko_293 (kH_of (bH_M B o' M)), (List.forall_mem_cons.mpr ⟨fun M o' => ko_294 (kH_of (bH_M B o' M)), (List.forall_mem_cons.mpr ⟨fun M o' => ko_295 (kH_of (bH_M B o' M)), (List.forall_mem_cons.mpr ⟨fun M o' => ko_296 (kH_of (bH_M B o' M)), (List.forall_mem_cons.mpr ⟨fun M o' => ko_297 (kH_of (bH_M B o' M)), (List.forall_mem_cons.mpr ⟨fun M o' => ko_298 (kH_of (bH_M B o' M)), (List.forall_mem_cons.mpr ⟨fun M o' => ko_299 (kH_of (bH_M B o' M)), (List.forall_mem_cons.mpr ⟨fun M o' => ko_300 (kH_of (bH_M B o' M)), (List.forall_mem_cons.mpr ⟨fun M o' => ko_301 (kH_of (bH_M B o' M)), (List.forall_mem_cons.mpr ⟨fun M o' => ko_302 (kH_of (bH_M B o' M)), (List.forall_mem_cons.mpr ⟨fun M o' => ko_303 (kH_of (bH_M B o' M)), (List.forall_mem_cons.mpr ⟨fun M o' => ko_304 (kH_of (bH_M B o' M)), (List.forall_mem_cons.mpr ⟨fun M o' => ko_305 (kH_of (bH_M B o' M)), (List.forall_mem_cons.mpr ⟨fun M o' => ko_306 (kH_of (bH_M B o' M)), (List.forall_mem_cons.mpr ⟨fun M o' => ko_307 (kH_of (bH_M B o' M)), (List.forall_mem_cons.mpr ⟨fun M o' => ko_308 (kH_of (bH_M B o' M)), (List.forall_mem_cons.mpr ⟨fun M o' => ko_309 (kH_of (bH_M B o' M)), (List.forall_mem_cons.mpr ⟨fun M o' => ko_310 (kH_of (bH_M B o' M)), (List.forall_mem_cons.mpr ⟨fun M o' => ko_311 (kH_of (bH_M B o' M)), (List.forall_mem_cons.mpr ⟨fun M o' => ko_312 (kH_of (bH_M B o' M)), (List.forall_mem_cons.mpr ⟨fun M o' => ko_313 (kH_of (bH_M B o' M)), (List.forall_mem_cons.mpr ⟨fun M o' => ko_314 (kH_of (bH_M B o' M)), (List.forall_mem_cons.mpr ⟨fun M o' => ko_315 (kH_of (bH_M B o' M)), (List.forall_mem_cons.mpr ⟨fun M o' => ko_316 (kH_of (bH_M B o' M)), (List.forall_mem_cons.mpr ⟨fun M o' => ko_317 (kH_of (bH_M B o' M)), (List.forall_mem_cons.mpr ⟨fun M o' => ko_318 (kH_of (bH_M B o' M)), (List.forall_mem_cons.mpr ⟨fun M o' => ko_319 (kH_of (bH_M B o' M)), (List.forall_mem_cons.mpr ⟨fun M o' => ko_320 (kH_of (bH_M B o' M)), (List.forall_mem_cons.mpr ⟨fun M o' => ko_321 (kH_of (bH_M B o' M)), (List.forall_mem_cons.mpr ⟨fun M o' => ko_322 (kH_of (bH_M B o' M)), (List.forall_mem_cons.mpr ⟨fun M o' => ko_323 (kH_of (bH_M B o' M)), (List.forall_mem_cons.mpr ⟨fun M o' => ko_324 (kH_of (bH_M B o' M)), (List.forall_mem_cons.mpr ⟨fun M o' => ko_325 (kH_of (bH_M B o' M)), (List.forall_mem_cons.mpr ⟨fun M o' => ko_326 (kH_of (bH_M B o' M)), (List.forall_mem_cons.mpr ⟨fun M o' => ko_327 (kH_of (bH_M B o' M)), (List.forall_mem_cons.mpr ⟨fun M o' => ko_328 (kH_of (bH_M B o' M)), (List.forall_mem_cons.mpr ⟨fun M o' => ko_329 (kH_of (bH_M B o' M)), (List.forall_mem_cons.mpr ⟨fun M o' => ko_330 (kH_of (bH_M B o' M)), (List.forall_mem_cons.mpr ⟨fun M o' => ko_331 (kH_of (bH_M B o' M)), (List.forall_mem_cons.mpr ⟨fun M o' => ko_332 (kH_of (bH_M B o' M)), (List.forall_mem_cons.mpr ⟨fun M o' => ko_333 (kH_of (bH_M B o' M)), (List.forall_mem_cons.mpr ⟨fun M o' => ko_334 (kH_of (bH_M B o' M)), (List.forall_mem_cons.mpr ⟨fun M o' => ko_335 (kH_of (bH_M B o' M)), (List.forall_mem_cons.mpr ⟨fun M o' => ko_336 (kH_of (bH_M B o' M)), (List.forall_mem_cons.mpr ⟨fun M o' => ko_337 (kH_of (bH_M B o' M)), (List.forall_mem_cons.mpr ⟨fun M o' => ko_338 (kH_of (bH_M B o' M)), (List.forall_mem_cons.mpr ⟨fun M o' => ko_339 (kH_of (bH_M B o' M)), (List.forall_mem_cons.mpr ⟨fun M o' => ko_340 (kH_of (bH_M B o' M)), (List.forall_mem_cons.mpr ⟨fun M o' => ko_341 (kH_of (bH_M B o' M)), (List.forall_mem_cons.mpr ⟨fun M o' => ko_342 (kH_of (bH_M B o' M)), fun _ h => absurd h List.not_mem_nil⟩)⟩)⟩)⟩)⟩)⟩)⟩)⟩)⟩)⟩)⟩)⟩)⟩)⟩)⟩)⟩)⟩)⟩)⟩)⟩)⟩)⟩)⟩)⟩)⟩)⟩)⟩)⟩)⟩)⟩)⟩)⟩)⟩)⟩)⟩)⟩)⟩)⟩)⟩)⟩)⟩)⟩)⟩)⟩)⟩)⟩)⟩)⟩)⟩)⟩)⟩)⟩)⟩)⟩)⟩)⟩)⟩)⟩)⟩)⟩)
  exact h
theorem kH2_of (B : bH o D Fl T) : kH2 o D Fl T := ⟨kH_of B, hk_doAll B (bD_of B), trivial⟩
end HA
end
section
/-! printed by wip/p1/gentabs.py: the words that the steps want, one by one -/
theorem xme_1 {w : Cond} (g : goodWord w = true) (h : w ∈ tables_1_1) : w ∈ xTB := xTB_in (List.mem_append_right _ (List.mem_append_left _ h)) g
theorem xme_2 {w : Cond} (g : goodWord w = true) (h : w ∈ tables_1_2) : w ∈ xTB := xTB_in (List.mem_append_right _ (List.mem_append_right _ (List.mem_append_left _ h))) g
theorem xme_6 {w : Cond} (g : goodWord w = true) (h : w ∈ tables_1_6) : w ∈ xTB := xTB_in (List.mem_append_right _ (List.mem_append_right _ (List.mem_append_right _ (List.mem_append_right _ (List.mem_append_right _ (List.mem_append_right _ (List.mem_append_left _ h))))))) g
theorem xme_7 {w : Cond} (g : goodWord w = true) (h : w ∈ tables_1_7) : w ∈ xTB := xTB_in (List.mem_append_right _ (List.mem_append_right _ (List.mem_append_right _ (List.mem_append_right _ (List.mem_append_right _ (List.mem_append_right _ (List.mem_append_right _ (List.mem_append_left _ h)))))))) g
theorem xvc_0 : vwCl[0]? = some (RX0, TX0, 9) := rfl
theorem xvc_1 : vwCl[1]? = some (RX1, TX1, 11) := rfl
theorem xvc_2 : vwCl[2]? = some (RX2, TX2, 15) := rfl
theorem xvc_3 : vwCl[3]? = some (RX3, TX3, 3) := rfl
theorem xvc_4 : vwCl[4]? = some (RX4, TX4, 2) := rfl
theorem xvc_5 : vwCl[5]? = some (RX5, TX5, 6) := rfl
theorem xvc_6 : vwCl[6]? = some (RX6, TX6, 5) := rfl
theorem xvc_7 : vwCl[7]? = some (RX7, TX7, 12) := rfl
theorem xvc_8 : vwCl[8]? = some (RX8, TX8, 11) := rfl
theorem xvc_9 : vwCl[9]? = some (RX9, TX9, 3) := rfl
theorem xvc_10 : vwCl[10]? = some (RX10, TX10, 9) := rfl
theorem xvc_11 : vwCl[11]? = some (RX11, TX11, 20) := rfl
theorem xvc_12 : vwCl[12]? = some (RX12, TX12, 48) := rfl
theorem we_0 : (Jvm.Cond.methodLink "BreadMap$Cutter" (5 : Nat) ({ cls := "java/lang/Object", name := "<init>", desc := "()V" } : Jvm.MethodName)) ∈ xTB := xme_2 rfl (List.mem_of_getElem? (i := 121) (by decide +kernel))
theorem we_1 : (Jvm.Cond.instanceMethod ({ cls := "java/lang/Object", name := "<init>", desc := "()V" } : Jvm.MethodName)) ∈ xTB := xme_1 rfl (List.mem_of_getElem? (i := 28) (by decide +kernel))
theorem we_2 : (Jvm.Cond.code ({ cls := "java/lang/Object", name := "<init>", desc := "()V" } : Jvm.MethodName) object_method_1_code (1 : Nat) (Option.none : Option Jvm.ClassFile.FieldType)) ∈ xTB := xme_1 rfl (List.mem_of_getElem? (i := 29) (by decide +kernel))
theorem we_3 : (Jvm.Cond.arrayClass Jvm.ClassFile.FieldType.int) ∈ xTB := xme_1 rfl (List.mem_of_getElem? (i := 95) (by decide +kernel))
theorem we_4 : (Jvm.Cond.fieldLink "BreadMap$Cutter" (11 : Nat) "BreadMap$Cutter" "onward" "[I") ∈ xTB := xme_2 rfl (List.mem_of_getElem? (i := 127) (by decide +kernel))
theorem we_5 : (Jvm.Cond.fieldLink "BreadMap$Cutter" (17 : Nat) "BreadMap$Cutter" "cameFrom" "[I") ∈ xTB := xme_2 rfl (List.mem_of_getElem? (i := 128) (by decide +kernel))
theorem we_6 : (Jvm.Cond.fieldLink "BreadMap$Cutter" (20 : Nat) "BreadMap$Cutter" "queue" "[I") ∈ xTB := xme_2 rfl (List.mem_of_getElem? (i := 129) (by decide +kernel))
theorem we_7 : (Jvm.Cond.methodLink "BreadMap$Eater" (3 : Nat) ({ cls := "java/lang/Object", name := "<init>", desc := "()V" } : Jvm.MethodName)) ∈ xTB := xme_2 rfl (List.mem_of_getElem? (i := 77) (by decide +kernel))
theorem we_8 : (Jvm.Cond.fieldLink "BreadMap$Eater" (11 : Nat) "BreadMap$Eater" "price" "[I") ∈ xTB := xme_2 rfl (List.mem_of_getElem? (i := 81) (by decide +kernel))
theorem we_9 : (Jvm.Cond.arrayClass Jvm.ClassFile.FieldType.long) ∈ xTB := xme_1 rfl (List.mem_of_getElem? (i := 50) (by decide +kernel))
theorem we_10 : (Jvm.Cond.fieldLink "BreadMap$Eater" (17 : Nat) "BreadMap$Eater" "entered" "[J") ∈ xTB := xme_2 rfl (List.mem_of_getElem? (i := 82) (by decide +kernel))
theorem we_11 : (Jvm.Cond.fieldLink "BreadMap$Eater" (21 : Nat) "BreadMap$Eater" "priceWithout" "[I") ∈ xTB := xme_2 rfl (List.mem_of_getElem? (i := 83) (by decide +kernel))
theorem we_12 : (Jvm.Cond.fieldLink "BreadMap$Eater" (24 : Nat) "BreadMap$Eater" "enteredWithout" "[J") ∈ xTB := xme_2 rfl (List.mem_of_getElem? (i := 84) (by decide +kernel))
theorem we_13 : (Jvm.Cond.fieldLink "BreadMap$Eater" (27 : Nat) "BreadMap$Eater" "ways" "LBreadMap$Ways;") ∈ xTB := xme_2 rfl (List.mem_of_getElem? (i := 78) (by decide +kernel))
theorem we_14 : (Jvm.Cond.code ({ cls := "BreadMap$Land", name := "clear", desc := "()V" } : Jvm.MethodName) prog_4_method_2_code (1 : Nat) (Option.none : Option Jvm.ClassFile.FieldType)) ∈ xTB := xme_2 rfl (List.mem_of_getElem? (i := 22) (by decide +kernel))
theorem we_15 : (Jvm.Cond.initialized "BreadMap$Land") ∈ xTB := xme_1 rfl (List.mem_of_getElem? (i := 7) (by decide +kernel))
theorem we_16 : (Jvm.Cond.methodLink "BreadMap$Land" (72 : Nat) ({ cls := "BreadMap$Land", name := "clear", desc := "()V" } : Jvm.MethodName)) ∈ xTB := xme_2 rfl (List.mem_of_getElem? (i := 19) (by decide +kernel))
theorem we_17 : (Jvm.Cond.instanceMethod ({ cls := "BreadMap$Land", name := "clear", desc := "()V" } : Jvm.MethodName)) ∈ xTB := xme_2 rfl (List.mem_of_getElem? (i := 20) (by decide +kernel))
theorem we_18 : (Jvm.Cond.selects "BreadMap$Land" ({ cls := "BreadMap$Land", name := "clear", desc := "()V" } : Jvm.MethodName) ({ cls := "BreadMap$Land", name := "clear", desc := "()V" } : Jvm.MethodName)) ∈ xTB := xme_2 rfl (List.mem_of_getElem? (i := 21) (by decide +kernel))
theorem we_19 : (Jvm.Cond.fieldLink "BreadMap$Land" (47 : Nat) "BreadMap$Land" "wide" "I") ∈ xTB := xme_1 rfl (List.mem_of_getElem? (i := 176) (by decide +kernel))
theorem we_20 : (Jvm.Cond.fieldLink "BreadMap$Land" (51 : Nat) "BreadMap$Land" "rows" "I") ∈ xTB := xme_1 rfl (List.mem_of_getElem? (i := 181) (by decide +kernel))
theorem we_21 : (Jvm.Cond.fieldLink "BreadMap$Land" (54 : Nat) "BreadMap$Land" "copies" "I") ∈ xTB := xme_1 rfl (List.mem_of_getElem? (i := 186) (by decide +kernel))
theorem we_22 : (Jvm.Cond.fieldLink "BreadMap$Land" (57 : Nat) "BreadMap$Land" "companies" "I") ∈ xTB := xme_1 rfl (List.mem_of_getElem? (i := 190) (by decide +kernel))
theorem we_23 : (Jvm.Cond.fieldLink "BreadMap$Land" (60 : Nat) "BreadMap$Land" "eaten" "I") ∈ xTB := xme_1 rfl (List.mem_of_getElem? (i := 194) (by decide +kernel))
theorem we_24 : (Jvm.Cond.fieldLink "BreadMap$Land" (11 : Nat) "BreadMap$Land" "letter" "[I") ∈ xTB := xme_1 rfl (List.mem_of_getElem? (i := 197) (by decide +kernel))
theorem we_25 : (Jvm.Cond.code ({ cls := "java/util/Arrays", name := "fill", desc := "([II)V" } : Jvm.MethodName) prog_21_method_103_code (4 : Nat) (Option.none : Option Jvm.ClassFile.FieldType)) ∈ xTB := xme_2 rfl (List.mem_of_getElem? (i := 25) (by decide +kernel))
theorem we_26 : (Jvm.Cond.initialized "java/util/Arrays") ∈ xTB := xme_1 rfl (List.mem_of_getElem? (i := 8) (by decide +kernel))
theorem we_27 : (Jvm.Cond.methodLink "BreadMap$Land" (63 : Nat) ({ cls := "java/util/Arrays", name := "fill", desc := "([II)V" } : Jvm.MethodName)) ∈ xTB := xme_2 rfl (List.mem_of_getElem? (i := 23) (by decide +kernel))
theorem we_28 : (Jvm.Cond.static ({ cls := "java/util/Arrays", name := "fill", desc := "([II)V" } : Jvm.MethodName)) ∈ xTB := xme_2 rfl (List.mem_of_getElem? (i := 24) (by decide +kernel))
theorem we_29 : (Jvm.Cond.fieldLink "BreadMap$Land" (15 : Nat) "BreadMap$Land" "rise" "[I") ∈ xTB := xme_1 rfl (List.mem_of_getElem? (i := 200) (by decide +kernel))
theorem we_30 : (Jvm.Cond.fieldLink "BreadMap$Land" (18 : Nat) "BreadMap$Land" "state" "[I") ∈ xTB := xme_1 rfl (List.mem_of_getElem? (i := 203) (by decide +kernel))
theorem we_31 : (Jvm.Cond.fieldLink "BreadMap$Land" (43 : Nat) "BreadMap$Land" "orders" "LBreadMap$Orders;") ∈ xTB := xme_1 rfl (List.mem_of_getElem? (i := 221) (by decide +kernel))
theorem we_32 : (Jvm.Cond.code ({ cls := "BreadMap$Orders", name := "forget", desc := "()V" } : Jvm.MethodName) prog_7_method_3_code (1 : Nat) (Option.none : Option Jvm.ClassFile.FieldType)) ∈ xTB := xme_2 rfl (List.mem_of_getElem? (i := 29) (by decide +kernel))
theorem we_33 : (Jvm.Cond.initialized "BreadMap$Orders") ∈ xTB := xme_1 rfl (List.mem_of_getElem? (i := 6) (by decide +kernel))
theorem we_34 : (Jvm.Cond.methodLink "BreadMap$Land" (69 : Nat) ({ cls := "BreadMap$Orders", name := "forget", desc := "()V" } : Jvm.MethodName)) ∈ xTB := xme_2 rfl (List.mem_of_getElem? (i := 26) (by decide +kernel))
theorem we_35 : (Jvm.Cond.instanceMethod ({ cls := "BreadMap$Orders", name := "forget", desc := "()V" } : Jvm.MethodName)) ∈ xTB := xme_2 rfl (List.mem_of_getElem? (i := 27) (by decide +kernel))
theorem we_36 : (Jvm.Cond.selects "BreadMap$Orders" ({ cls := "BreadMap$Orders", name := "forget", desc := "()V" } : Jvm.MethodName) ({ cls := "BreadMap$Orders", name := "forget", desc := "()V" } : Jvm.MethodName)) ∈ xTB := xme_2 rfl (List.mem_of_getElem? (i := 28) (by decide +kernel))
theorem we_37 : (Jvm.Cond.methodLink "BreadMap$Land" (5 : Nat) ({ cls := "java/lang/Object", name := "<init>", desc := "()V" } : Jvm.MethodName)) ∈ xTB := xme_1 rfl (List.mem_of_getElem? (i := 173) (by decide +kernel))
theorem we_38 : (Jvm.Cond.fieldLink "BreadMap$Land" (21 : Nat) "BreadMap$Land" "name" "[J") ∈ xTB := xme_1 rfl (List.mem_of_getElem? (i := 204) (by decide +kernel))
theorem we_39 : (Jvm.Cond.fieldLink "BreadMap$Land" (25 : Nat) "BreadMap$Land" "home" "[I") ∈ xTB := xme_1 rfl (List.mem_of_getElem? (i := 205) (by decide +kernel))
theorem we_40 : (Jvm.Cond.fieldLink "BreadMap$Land" (28 : Nat) "BreadMap$Land" "at" "[I") ∈ xTB := xme_1 rfl (List.mem_of_getElem? (i := 206) (by decide +kernel))
theorem we_41 : (Jvm.Cond.fieldLink "BreadMap$Land" (31 : Nat) "BreadMap$Land" "goal" "[I") ∈ xTB := xme_1 rfl (List.mem_of_getElem? (i := 210) (by decide +kernel))
theorem we_42 : (Jvm.Cond.fieldLink "BreadMap$Land" (34 : Nat) "BreadMap$Land" "by" "[I") ∈ xTB := xme_1 rfl (List.mem_of_getElem? (i := 214) (by decide +kernel))
theorem we_43 : (Jvm.Cond.fieldLink "BreadMap$Land" (37 : Nat) "BreadMap$Land" "spent" "[I") ∈ xTB := xme_1 rfl (List.mem_of_getElem? (i := 218) (by decide +kernel))
theorem we_44 : (Jvm.Cond.classLink "BreadMap$Land" (40 : Nat) "BreadMap$Orders") ∈ xTB := xme_1 rfl (List.mem_of_getElem? (i := 174) (by decide +kernel))
theorem we_45 : (Jvm.Cond.instantiable "BreadMap$Orders" (6 : Nat)) ∈ xTB := xme_1 rfl (List.mem_of_getElem? (i := 119) (by decide +kernel))
theorem we_46 : (Jvm.Cond.code ({ cls := "BreadMap$Orders", name := "<init>", desc := "()V" } : Jvm.MethodName) prog_7_method_1_code (1 : Nat) (Option.none : Option Jvm.ClassFile.FieldType)) ∈ xTB := xme_1 rfl (List.mem_of_getElem? (i := 122) (by decide +kernel))
theorem we_47 : (Jvm.Cond.instanceMethod ({ cls := "BreadMap$Orders", name := "<init>", desc := "()V" } : Jvm.MethodName)) ∈ xTB := xme_1 rfl (List.mem_of_getElem? (i := 121) (by decide +kernel))
theorem we_48 : (Jvm.Cond.methodLink "BreadMap$LandReader" (3 : Nat) ({ cls := "java/lang/Object", name := "<init>", desc := "()V" } : Jvm.MethodName)) ∈ xTB := xme_1 rfl (List.mem_of_getElem? (i := 101) (by decide +kernel))
theorem we_49 : (Jvm.Cond.fieldLink "BreadMap$LandReader" (9 : Nat) "BreadMap$LandReader" "tape" "LBreadMap$Tape;") ∈ xTB := xme_1 rfl (List.mem_of_getElem? (i := 102) (by decide +kernel))
theorem we_50 : (Jvm.Cond.methodLink "BreadMap$Mouse" (3 : Nat) ({ cls := "java/lang/Object", name := "<init>", desc := "()V" } : Jvm.MethodName)) ∈ xTB := xme_2 rfl (List.mem_of_getElem? (i := 155) (by decide +kernel))
theorem we_51 : (Jvm.Cond.fieldLink "BreadMap$Mouse" (11 : Nat) "BreadMap$Mouse" "tonight" "[J") ∈ xTB := xme_2 rfl (List.mem_of_getElem? (i := 156) (by decide +kernel))
theorem we_52 : (Jvm.Cond.fieldLink "BreadMap$Mouse" (17 : Nat) "BreadMap$Mouse" "tomorrow" "[J") ∈ xTB := xme_2 rfl (List.mem_of_getElem? (i := 157) (by decide +kernel))
theorem we_53 : (Jvm.Cond.fieldLink "BreadMap$Orders" (11 : Nat) "BreadMap$Orders" "size" "I") ∈ xTB := xme_1 rfl (List.mem_of_getElem? (i := 124) (by decide +kernel))
theorem we_54 : (Jvm.Cond.fieldLink "BreadMap$Orders" (28 : Nat) "BreadMap$Orders" "steps" "I") ∈ xTB := xme_1 rfl (List.mem_of_getElem? (i := 127) (by decide +kernel))
theorem we_55 : (Jvm.Cond.methodLink "BreadMap$Orders" (5 : Nat) ({ cls := "java/lang/Object", name := "<init>", desc := "()V" } : Jvm.MethodName)) ∈ xTB := xme_1 rfl (List.mem_of_getElem? (i := 123) (by decide +kernel))
theorem we_56 : (Jvm.Cond.fieldLink "BreadMap$Orders" (15 : Nat) "BreadMap$Orders" "word" "[I") ∈ xTB := xme_1 rfl (List.mem_of_getElem? (i := 130) (by decide +kernel))
theorem we_57 : (Jvm.Cond.fieldLink "BreadMap$Orders" (19 : Nat) "BreadMap$Orders" "first" "[I") ∈ xTB := xme_1 rfl (List.mem_of_getElem? (i := 132) (by decide +kernel))
theorem we_58 : (Jvm.Cond.fieldLink "BreadMap$Orders" (22 : Nat) "BreadMap$Orders" "second" "[I") ∈ xTB := xme_1 rfl (List.mem_of_getElem? (i := 134) (by decide +kernel))
theorem we_59 : (Jvm.Cond.fieldLink "BreadMap$Orders" (25 : Nat) "BreadMap$Orders" "partner" "[I") ∈ xTB := xme_1 rfl (List.mem_of_getElem? (i := 136) (by decide +kernel))
theorem we_60 : (Jvm.Cond.methodLink "BreadMap$OrdersReader" (3 : Nat) ({ cls := "java/lang/Object", name := "<init>", desc := "()V" } : Jvm.MethodName)) ∈ xTB := xme_1 rfl (List.mem_of_getElem? (i := 117) (by decide +kernel))
theorem we_61 : (Jvm.Cond.classLink "BreadMap$OrdersReader" (9 : Nat) "BreadMap$Orders") ∈ xTB := xme_1 rfl (List.mem_of_getElem? (i := 118) (by decide +kernel))
theorem we_62 : (Jvm.Cond.fieldLink "BreadMap$OrdersReader" (12 : Nat) "BreadMap$OrdersReader" "orders" "LBreadMap$Orders;") ∈ xTB := xme_1 rfl (List.mem_of_getElem? (i := 152) (by decide +kernel))
theorem we_63 : (Jvm.Cond.fieldLink "BreadMap$OrdersReader" (18 : Nat) "BreadMap$OrdersReader" "open" "[I") ∈ xTB := xme_1 rfl (List.mem_of_getElem? (i := 155) (by decide +kernel))
theorem we_64 : (Jvm.Cond.fieldLink "BreadMap$OrdersReader" (22 : Nat) "BreadMap$OrdersReader" "tape" "LBreadMap$Tape;") ∈ xTB := xme_1 rfl (List.mem_of_getElem? (i := 151) (by decide +kernel))
theorem we_65 : (Jvm.Cond.methodLink "BreadMap$Runner" (7 : Nat) ({ cls := "java/lang/Object", name := "<init>", desc := "()V" } : Jvm.MethodName)) ∈ xTB := xme_2 rfl (List.mem_of_getElem? (i := 168) (by decide +kernel))
theorem we_66 : (Jvm.Cond.fieldLink "BreadMap$Runner" (13 : Nat) "BreadMap$Runner" "turnsLeft" "[I") ∈ xTB := xme_2 rfl (List.mem_of_getElem? (i := 170) (by decide +kernel))
theorem we_67 : (Jvm.Cond.fieldLink "BreadMap$Runner" (17 : Nat) "BreadMap$Runner" "ways" "LBreadMap$Ways;") ∈ xTB := xme_2 rfl (List.mem_of_getElem? (i := 169) (by decide +kernel))
theorem we_68 : (Jvm.Cond.methodLink "BreadMap$Tape" (3 : Nat) ({ cls := "java/lang/Object", name := "<init>", desc := "()V" } : Jvm.MethodName)) ∈ xTB := xme_1 rfl (List.mem_of_getElem? (i := 56) (by decide +kernel))
theorem we_69 : (Jvm.Cond.arrayClass Jvm.ClassFile.FieldType.byte) ∈ xTB := xme_1 rfl (List.mem_of_getElem? (i := 94) (by decide +kernel))
theorem we_70 : (Jvm.Cond.fieldLink "BreadMap$Tape" (11 : Nat) "BreadMap$Tape" "bytes" "[B") ∈ xTB := xme_1 rfl (List.mem_of_getElem? (i := 57) (by decide +kernel))
theorem we_71 : (Jvm.Cond.fieldLink "BreadMap$Tape" (15 : Nat) "BreadMap$Tape" "kinds" "[I") ∈ xTB := xme_1 rfl (List.mem_of_getElem? (i := 60) (by decide +kernel))
theorem we_72 : (Jvm.Cond.fieldLink "BreadMap$Tape" (19 : Nat) "BreadMap$Tape" "starts" "[I") ∈ xTB := xme_1 rfl (List.mem_of_getElem? (i := 61) (by decide +kernel))
theorem we_73 : (Jvm.Cond.fieldLink "BreadMap$Tape" (22 : Nat) "BreadMap$Tape" "ends" "[I") ∈ xTB := xme_1 rfl (List.mem_of_getElem? (i := 62) (by decide +kernel))
theorem we_74 : (Jvm.Cond.fieldLink "BreadMap$Tape" (25 : Nat) "BreadMap$Tape" "values" "[I") ∈ xTB := xme_1 rfl (List.mem_of_getElem? (i := 63) (by decide +kernel))
theorem we_75 : (Jvm.Cond.fieldLink "BreadMap$Tape" (28 : Nat) "BreadMap$Tape" "toldFault" "I") ∈ xTB := xme_1 rfl (List.mem_of_getElem? (i := 67) (by decide +kernel))
theorem we_76 : (Jvm.Cond.fieldLink "BreadMap$Tape" (32 : Nat) "BreadMap$Tape" "toldPlace" "I") ∈ xTB := xme_1 rfl (List.mem_of_getElem? (i := 69) (by decide +kernel))
theorem we_77 : (Jvm.Cond.methodLink "BreadMap$Tray" (3 : Nat) ({ cls := "java/lang/Object", name := "<init>", desc := "()V" } : Jvm.MethodName)) ∈ xTB := xme_1 rfl (List.mem_of_getElem? (i := 36) (by decide +kernel))
theorem we_78 : (Jvm.Cond.fieldLink "BreadMap$Tray" (11 : Nat) "BreadMap$Tray" "numbers" "[J") ∈ xTB := xme_1 rfl (List.mem_of_getElem? (i := 37) (by decide +kernel))
theorem we_79 : (Jvm.Cond.fieldLink "BreadMap$Tray" (15 : Nat) "BreadMap$Tray" "sort" "I") ∈ xTB := xme_1 rfl (List.mem_of_getElem? (i := 39) (by decide +kernel))
theorem we_80 : (Jvm.Cond.methodLink "BreadMap$Ways" (3 : Nat) ({ cls := "java/lang/Object", name := "<init>", desc := "()V" } : Jvm.MethodName)) ∈ xTB := xme_2 rfl (List.mem_of_getElem? (i := 36) (by decide +kernel))
theorem we_81 : (Jvm.Cond.fieldLink "BreadMap$Ways" (11 : Nat) "BreadMap$Ways" "cost" "[I") ∈ xTB := xme_2 rfl (List.mem_of_getElem? (i := 37) (by decide +kernel))
theorem we_82 : (Jvm.Cond.fieldLink "BreadMap$Ways" (17 : Nat) "BreadMap$Ways" "far" "[I") ∈ xTB := xme_2 rfl (List.mem_of_getElem? (i := 40) (by decide +kernel))
theorem we_83 : (Jvm.Cond.fieldLink "BreadMap$Ways" (20 : Nat) "BreadMap$Ways" "queue" "[I") ∈ xTB := xme_2 rfl (List.mem_of_getElem? (i := 41) (by decide +kernel))
theorem we_84 : (Jvm.Cond.fieldLink "BreadMap$Ways" (23 : Nat) "BreadMap$Ways" "path" "[I") ∈ xTB := xme_2 rfl (List.mem_of_getElem? (i := 45) (by decide +kernel))
theorem we_85 : (Jvm.Cond.methodLink "BreadMap" (1 : Nat) ({ cls := "java/lang/Object", name := "<init>", desc := "()V" } : Jvm.MethodName)) ∈ xTB := xme_1 rfl (List.mem_of_getElem? (i := 27) (by decide +kernel))
theorem we_86 : (Jvm.Cond.fieldLink "BreadMap" (9 : Nat) "BreadMap" "status" "I") ∈ xTB := xme_2 rfl (List.mem_of_getElem? (i := 211) (by decide +kernel))
theorem we_87 : (Jvm.Cond.fieldLink "BreadMap" (13 : Nat) "BreadMap" "top" "J") ∈ xTB := xme_2 rfl (List.mem_of_getElem? (i := 212) (by decide +kernel))
theorem we_88 : (Jvm.Cond.fieldLink "BreadMap" (17 : Nat) "BreadMap" "bottom" "J") ∈ xTB := xme_2 rfl (List.mem_of_getElem? (i := 213) (by decide +kernel))
theorem we_89 : (Jvm.Cond.classLink "BreadMap" (20 : Nat) "BreadMap$Tray") ∈ xTB := xme_1 rfl (List.mem_of_getElem? (i := 30) (by decide +kernel))
theorem we_90 : (Jvm.Cond.fieldLink "BreadMap" (22 : Nat) "BreadMap" "trays" "[LBreadMap$Tray;") ∈ xTB := xme_2 rfl (List.mem_of_getElem? (i := 214) (by decide +kernel))
theorem we_91 : (Jvm.Cond.instantiable "BreadMap$Tray" (3 : Nat)) ∈ xTB := xme_1 rfl (List.mem_of_getElem? (i := 32) (by decide +kernel))
theorem we_92 : (Jvm.Cond.initialized "BreadMap$Tray") ∈ xTB := xme_1 rfl (List.mem_of_getElem? (i := 2) (by decide +kernel))
theorem we_93 : (Jvm.Cond.code ({ cls := "BreadMap$Tray", name := "<init>", desc := "()V" } : Jvm.MethodName) prog_11_method_1_code (1 : Nat) (Option.none : Option Jvm.ClassFile.FieldType)) ∈ xTB := xme_1 rfl (List.mem_of_getElem? (i := 35) (by decide +kernel))
theorem we_94 : (Jvm.Cond.instanceMethod ({ cls := "BreadMap$Tray", name := "<init>", desc := "()V" } : Jvm.MethodName)) ∈ xTB := xme_1 rfl (List.mem_of_getElem? (i := 34) (by decide +kernel))
theorem we_95 : (Jvm.Cond.classLink "BreadMap" (27 : Nat) "BreadMap$Tape") ∈ xTB := xme_1 rfl (List.mem_of_getElem? (i := 51) (by decide +kernel))
theorem we_96 : (Jvm.Cond.instantiable "BreadMap$Tape" (11 : Nat)) ∈ xTB := xme_1 rfl (List.mem_of_getElem? (i := 52) (by decide +kernel))
theorem we_97 : (Jvm.Cond.initialized "BreadMap$Tape") ∈ xTB := xme_1 rfl (List.mem_of_getElem? (i := 3) (by decide +kernel))
theorem we_98 : (Jvm.Cond.code ({ cls := "BreadMap$Tape", name := "<init>", desc := "()V" } : Jvm.MethodName) prog_10_method_1_code (1 : Nat) (Option.none : Option Jvm.ClassFile.FieldType)) ∈ xTB := xme_1 rfl (List.mem_of_getElem? (i := 55) (by decide +kernel))
theorem we_99 : (Jvm.Cond.instanceMethod ({ cls := "BreadMap$Tape", name := "<init>", desc := "()V" } : Jvm.MethodName)) ∈ xTB := xme_1 rfl (List.mem_of_getElem? (i := 54) (by decide +kernel))
theorem we_100 : (Jvm.Cond.fieldLink "BreadMap" (30 : Nat) "BreadMap" "tape" "LBreadMap$Tape;") ∈ xTB := xme_2 rfl (List.mem_of_getElem? (i := 215) (by decide +kernel))
theorem we_101 : (Jvm.Cond.classLink "BreadMap" (34 : Nat) "BreadMap$LandReader") ∈ xTB := xme_1 rfl (List.mem_of_getElem? (i := 96) (by decide +kernel))
theorem we_102 : (Jvm.Cond.instantiable "BreadMap$LandReader" (3 : Nat)) ∈ xTB := xme_1 rfl (List.mem_of_getElem? (i := 97) (by decide +kernel))
theorem we_103 : (Jvm.Cond.initialized "BreadMap$LandReader") ∈ xTB := xme_1 rfl (List.mem_of_getElem? (i := 4) (by decide +kernel))
theorem we_104 : (Jvm.Cond.code ({ cls := "BreadMap$LandReader", name := "<init>", desc := "(LBreadMap$Tape;)V" } : Jvm.MethodName) prog_5_method_1_code (2 : Nat) (Option.none : Option Jvm.ClassFile.FieldType)) ∈ xTB := xme_1 rfl (List.mem_of_getElem? (i := 100) (by decide +kernel))
theorem we_105 : (Jvm.Cond.methodLink "BreadMap" (36 : Nat) ({ cls := "BreadMap$LandReader", name := "<init>", desc := "(LBreadMap$Tape;)V" } : Jvm.MethodName)) ∈ xTB := xme_1 rfl (List.mem_of_getElem? (i := 98) (by decide +kernel))
theorem we_106 : (Jvm.Cond.instanceMethod ({ cls := "BreadMap$LandReader", name := "<init>", desc := "(LBreadMap$Tape;)V" } : Jvm.MethodName)) ∈ xTB := xme_1 rfl (List.mem_of_getElem? (i := 99) (by decide +kernel))
theorem we_107 : (Jvm.Cond.fieldLink "BreadMap" (39 : Nat) "BreadMap" "landReader" "LBreadMap$LandReader;") ∈ xTB := xme_2 rfl (List.mem_of_getElem? (i := 216) (by decide +kernel))
theorem we_108 : (Jvm.Cond.classLink "BreadMap" (43 : Nat) "BreadMap$OrdersReader") ∈ xTB := xme_1 rfl (List.mem_of_getElem? (i := 112) (by decide +kernel))
theorem we_109 : (Jvm.Cond.instantiable "BreadMap$OrdersReader" (5 : Nat)) ∈ xTB := xme_1 rfl (List.mem_of_getElem? (i := 113) (by decide +kernel))
theorem we_110 : (Jvm.Cond.initialized "BreadMap$OrdersReader") ∈ xTB := xme_1 rfl (List.mem_of_getElem? (i := 5) (by decide +kernel))
theorem we_111 : (Jvm.Cond.code ({ cls := "BreadMap$OrdersReader", name := "<init>", desc := "(LBreadMap$Tape;)V" } : Jvm.MethodName) prog_8_method_1_code (2 : Nat) (Option.none : Option Jvm.ClassFile.FieldType)) ∈ xTB := xme_1 rfl (List.mem_of_getElem? (i := 116) (by decide +kernel))
theorem we_112 : (Jvm.Cond.methodLink "BreadMap" (45 : Nat) ({ cls := "BreadMap$OrdersReader", name := "<init>", desc := "(LBreadMap$Tape;)V" } : Jvm.MethodName)) ∈ xTB := xme_1 rfl (List.mem_of_getElem? (i := 114) (by decide +kernel))
theorem we_113 : (Jvm.Cond.instanceMethod ({ cls := "BreadMap$OrdersReader", name := "<init>", desc := "(LBreadMap$Tape;)V" } : Jvm.MethodName)) ∈ xTB := xme_1 rfl (List.mem_of_getElem? (i := 115) (by decide +kernel))
theorem we_114 : (Jvm.Cond.fieldLink "BreadMap" (46 : Nat) "BreadMap" "ordersReader" "LBreadMap$OrdersReader;") ∈ xTB := xme_2 rfl (List.mem_of_getElem? (i := 217) (by decide +kernel))
theorem we_115 : (Jvm.Cond.classLink "BreadMap" (50 : Nat) "BreadMap$Land") ∈ xTB := xme_1 rfl (List.mem_of_getElem? (i := 168) (by decide +kernel))
theorem we_116 : (Jvm.Cond.instantiable "BreadMap$Land" (15 : Nat)) ∈ xTB := xme_1 rfl (List.mem_of_getElem? (i := 169) (by decide +kernel))
theorem we_117 : (Jvm.Cond.code ({ cls := "BreadMap$Land", name := "<init>", desc := "()V" } : Jvm.MethodName) prog_4_method_1_code (1 : Nat) (Option.none : Option Jvm.ClassFile.FieldType)) ∈ xTB := xme_1 rfl (List.mem_of_getElem? (i := 172) (by decide +kernel))
theorem we_118 : (Jvm.Cond.instanceMethod ({ cls := "BreadMap$Land", name := "<init>", desc := "()V" } : Jvm.MethodName)) ∈ xTB := xme_1 rfl (List.mem_of_getElem? (i := 171) (by decide +kernel))
theorem we_119 : (Jvm.Cond.fieldLink "BreadMap" (53 : Nat) "BreadMap" "land" "LBreadMap$Land;") ∈ xTB := xme_2 rfl (List.mem_of_getElem? (i := 218) (by decide +kernel))
theorem we_120 : (Jvm.Cond.code ({ cls := "BreadMap$Land", name := "becomePlains", desc := "(II)V" } : Jvm.MethodName) prog_4_method_3_code (3 : Nat) (Option.none : Option Jvm.ClassFile.FieldType)) ∈ xTB := xme_2 rfl (List.mem_of_getElem? (i := 18) (by decide +kernel))
theorem we_121 : (Jvm.Cond.methodLink "BreadMap" (57 : Nat) ({ cls := "BreadMap$Land", name := "becomePlains", desc := "(II)V" } : Jvm.MethodName)) ∈ xTB := xme_2 rfl (List.mem_of_getElem? (i := 15) (by decide +kernel))
theorem we_122 : (Jvm.Cond.instanceMethod ({ cls := "BreadMap$Land", name := "becomePlains", desc := "(II)V" } : Jvm.MethodName)) ∈ xTB := xme_2 rfl (List.mem_of_getElem? (i := 16) (by decide +kernel))
theorem we_123 : (Jvm.Cond.selects "BreadMap$Land" ({ cls := "BreadMap$Land", name := "becomePlains", desc := "(II)V" } : Jvm.MethodName) ({ cls := "BreadMap$Land", name := "becomePlains", desc := "(II)V" } : Jvm.MethodName)) ∈ xTB := xme_2 rfl (List.mem_of_getElem? (i := 17) (by decide +kernel))
theorem we_124 : (Jvm.Cond.fieldLink "BreadMap" (61 : Nat) "BreadMap" "spare" "LBreadMap$Land;") ∈ xTB := xme_2 rfl (List.mem_of_getElem? (i := 219) (by decide +kernel))
theorem we_125 : (Jvm.Cond.fieldLink "BreadMap" (64 : Nat) "BreadMap" "marks" "[LBreadMap$Land;") ∈ xTB := xme_2 rfl (List.mem_of_getElem? (i := 220) (by decide +kernel))
theorem we_126 : (Jvm.Cond.fieldLink "BreadMap" (68 : Nat) "BreadMap" "marked" "I") ∈ xTB := xme_2 rfl (List.mem_of_getElem? (i := 221) (by decide +kernel))
theorem we_127 : (Jvm.Cond.classLink "BreadMap" (71 : Nat) "BreadMap$Ways") ∈ xTB := xme_2 rfl (List.mem_of_getElem? (i := 31) (by decide +kernel))
theorem we_128 : (Jvm.Cond.instantiable "BreadMap$Ways" (9 : Nat)) ∈ xTB := xme_2 rfl (List.mem_of_getElem? (i := 32) (by decide +kernel))
theorem we_129 : (Jvm.Cond.initialized "BreadMap$Ways") ∈ xTB := xme_1 rfl (List.mem_of_getElem? (i := 9) (by decide +kernel))
theorem we_130 : (Jvm.Cond.code ({ cls := "BreadMap$Ways", name := "<init>", desc := "()V" } : Jvm.MethodName) prog_12_method_1_code (1 : Nat) (Option.none : Option Jvm.ClassFile.FieldType)) ∈ xTB := xme_2 rfl (List.mem_of_getElem? (i := 35) (by decide +kernel))
theorem we_131 : (Jvm.Cond.instanceMethod ({ cls := "BreadMap$Ways", name := "<init>", desc := "()V" } : Jvm.MethodName)) ∈ xTB := xme_2 rfl (List.mem_of_getElem? (i := 34) (by decide +kernel))
theorem we_132 : (Jvm.Cond.fieldLink "BreadMap" (74 : Nat) "BreadMap" "ways" "LBreadMap$Ways;") ∈ xTB := xme_2 rfl (List.mem_of_getElem? (i := 222) (by decide +kernel))
theorem we_133 : (Jvm.Cond.classLink "BreadMap" (78 : Nat) "BreadMap$Eater") ∈ xTB := xme_2 rfl (List.mem_of_getElem? (i := 72) (by decide +kernel))
theorem we_134 : (Jvm.Cond.instantiable "BreadMap$Eater" (11 : Nat)) ∈ xTB := xme_2 rfl (List.mem_of_getElem? (i := 73) (by decide +kernel))
theorem we_135 : (Jvm.Cond.initialized "BreadMap$Eater") ∈ xTB := xme_1 rfl (List.mem_of_getElem? (i := 10) (by decide +kernel))
theorem we_136 : (Jvm.Cond.code ({ cls := "BreadMap$Eater", name := "<init>", desc := "(LBreadMap$Ways;)V" } : Jvm.MethodName) prog_3_method_1_code (2 : Nat) (Option.none : Option Jvm.ClassFile.FieldType)) ∈ xTB := xme_2 rfl (List.mem_of_getElem? (i := 76) (by decide +kernel))
theorem we_137 : (Jvm.Cond.methodLink "BreadMap" (80 : Nat) ({ cls := "BreadMap$Eater", name := "<init>", desc := "(LBreadMap$Ways;)V" } : Jvm.MethodName)) ∈ xTB := xme_2 rfl (List.mem_of_getElem? (i := 74) (by decide +kernel))
theorem we_138 : (Jvm.Cond.instanceMethod ({ cls := "BreadMap$Eater", name := "<init>", desc := "(LBreadMap$Ways;)V" } : Jvm.MethodName)) ∈ xTB := xme_2 rfl (List.mem_of_getElem? (i := 75) (by decide +kernel))
theorem we_139 : (Jvm.Cond.fieldLink "BreadMap" (83 : Nat) "BreadMap" "eater" "LBreadMap$Eater;") ∈ xTB := xme_2 rfl (List.mem_of_getElem? (i := 223) (by decide +kernel))
theorem we_140 : (Jvm.Cond.classLink "BreadMap" (87 : Nat) "BreadMap$Cutter") ∈ xTB := xme_2 rfl (List.mem_of_getElem? (i := 116) (by decide +kernel))
theorem we_141 : (Jvm.Cond.instantiable "BreadMap$Cutter" (9 : Nat)) ∈ xTB := xme_2 rfl (List.mem_of_getElem? (i := 117) (by decide +kernel))
theorem we_142 : (Jvm.Cond.initialized "BreadMap$Cutter") ∈ xTB := xme_1 rfl (List.mem_of_getElem? (i := 11) (by decide +kernel))
theorem we_143 : (Jvm.Cond.code ({ cls := "BreadMap$Cutter", name := "<init>", desc := "()V" } : Jvm.MethodName) prog_2_method_1_code (1 : Nat) (Option.none : Option Jvm.ClassFile.FieldType)) ∈ xTB := xme_2 rfl (List.mem_of_getElem? (i := 120) (by decide +kernel))
theorem we_144 : (Jvm.Cond.instanceMethod ({ cls := "BreadMap$Cutter", name := "<init>", desc := "()V" } : Jvm.MethodName)) ∈ xTB := xme_2 rfl (List.mem_of_getElem? (i := 119) (by decide +kernel))
theorem we_145 : (Jvm.Cond.fieldLink "BreadMap" (90 : Nat) "BreadMap" "cutter" "LBreadMap$Cutter;") ∈ xTB := xme_2 rfl (List.mem_of_getElem? (i := 224) (by decide +kernel))
theorem we_146 : (Jvm.Cond.classLink "BreadMap" (94 : Nat) "BreadMap$Mouse") ∈ xTB := xme_2 rfl (List.mem_of_getElem? (i := 150) (by decide +kernel))
theorem we_147 : (Jvm.Cond.instantiable "BreadMap$Mouse" (2 : Nat)) ∈ xTB := xme_2 rfl (List.mem_of_getElem? (i := 151) (by decide +kernel))
theorem we_148 : (Jvm.Cond.initialized "BreadMap$Mouse") ∈ xTB := xme_1 rfl (List.mem_of_getElem? (i := 12) (by decide +kernel))
theorem we_149 : (Jvm.Cond.code ({ cls := "BreadMap$Mouse", name := "<init>", desc := "()V" } : Jvm.MethodName) prog_6_method_1_code (1 : Nat) (Option.none : Option Jvm.ClassFile.FieldType)) ∈ xTB := xme_2 rfl (List.mem_of_getElem? (i := 154) (by decide +kernel))
theorem we_150 : (Jvm.Cond.instanceMethod ({ cls := "BreadMap$Mouse", name := "<init>", desc := "()V" } : Jvm.MethodName)) ∈ xTB := xme_2 rfl (List.mem_of_getElem? (i := 153) (by decide +kernel))
theorem we_151 : (Jvm.Cond.fieldLink "BreadMap" (97 : Nat) "BreadMap" "mouse" "LBreadMap$Mouse;") ∈ xTB := xme_2 rfl (List.mem_of_getElem? (i := 225) (by decide +kernel))
theorem we_152 : (Jvm.Cond.classLink "BreadMap" (101 : Nat) "BreadMap$Runner") ∈ xTB := xme_2 rfl (List.mem_of_getElem? (i := 163) (by decide +kernel))
theorem we_153 : (Jvm.Cond.instantiable "BreadMap$Runner" (12 : Nat)) ∈ xTB := xme_2 rfl (List.mem_of_getElem? (i := 164) (by decide +kernel))
theorem we_154 : (Jvm.Cond.initialized "BreadMap$Runner") ∈ xTB := xme_1 rfl (List.mem_of_getElem? (i := 13) (by decide +kernel))
theorem we_155 : (Jvm.Cond.code ({ cls := "BreadMap$Runner", name := "<init>", desc := "(LBreadMap$Ways;)V" } : Jvm.MethodName) prog_9_method_1_code (2 : Nat) (Option.none : Option Jvm.ClassFile.FieldType)) ∈ xTB := xme_2 rfl (List.mem_of_getElem? (i := 167) (by decide +kernel))
theorem we_156 : (Jvm.Cond.methodLink "BreadMap" (103 : Nat) ({ cls := "BreadMap$Runner", name := "<init>", desc := "(LBreadMap$Ways;)V" } : Jvm.MethodName)) ∈ xTB := xme_2 rfl (List.mem_of_getElem? (i := 165) (by decide +kernel))
theorem we_157 : (Jvm.Cond.instanceMethod ({ cls := "BreadMap$Runner", name := "<init>", desc := "(LBreadMap$Ways;)V" } : Jvm.MethodName)) ∈ xTB := xme_2 rfl (List.mem_of_getElem? (i := 166) (by decide +kernel))
theorem we_158 : (Jvm.Cond.fieldLink "BreadMap" (104 : Nat) "BreadMap" "runner" "LBreadMap$Runner;") ∈ xTB := xme_2 rfl (List.mem_of_getElem? (i := 226) (by decide +kernel))
theorem we_159 : (Jvm.Cond.fieldLink "BreadMap" (108 : Nat) "BreadMap" "shownWay" "[I") ∈ xTB := xme_2 rfl (List.mem_of_getElem? (i := 227) (by decide +kernel))
theorem we_160 : (Jvm.Cond.fieldLink "BreadMap" (112 : Nat) "BreadMap" "shownCells" "I") ∈ xTB := xme_2 rfl (List.mem_of_getElem? (i := 228) (by decide +kernel))
theorem we_161 : (Jvm.Cond.fieldLink "BreadMap" (115 : Nat) "BreadMap" "stuckLatest" "I") ∈ xTB := xme_2 rfl (List.mem_of_getElem? (i := 229) (by decide +kernel))
theorem we_162 : (Jvm.Cond.fieldLink "BreadMap" (118 : Nat) "BreadMap" "ranLatest" "[I") ∈ xTB := xme_2 rfl (List.mem_of_getElem? (i := 230) (by decide +kernel))
theorem we_163 : (Jvm.Cond.methodLink "BreadMap" (121 : Nat) ({ cls := "java/util/Arrays", name := "fill", desc := "([II)V" } : Jvm.MethodName)) ∈ xTB := xme_2 rfl (List.mem_of_getElem? (i := 210) (by decide +kernel))
theorem we_164 : (Jvm.Cond.methodLink "BreadMapModel" (1 : Nat) ({ cls := "java/lang/Object", name := "<init>", desc := "()V" } : Jvm.MethodName)) ∈ xTB := xme_6 rfl (List.mem_of_getElem? (i := 206) (by decide +kernel))
theorem we_165 : (Jvm.Cond.fieldLink "BreadMapModel" (7 : Nat) "BreadMapModel" "under" "J") ∈ xTB := xme_6 rfl (List.mem_of_getElem? (i := 210) (by decide +kernel))
theorem we_166 : (Jvm.Cond.fieldLink "BreadMapModel" (13 : Nat) "BreadMapModel" "traySort" "[I") ∈ xTB := xme_6 rfl (List.mem_of_getElem? (i := 211) (by decide +kernel))
theorem we_167 : (Jvm.Cond.fieldLink "BreadMapModel" (17 : Nat) "BreadMapModel" "trayMany" "[I") ∈ xTB := xme_6 rfl (List.mem_of_getElem? (i := 212) (by decide +kernel))
theorem we_168 : (Jvm.Cond.fieldLink "BreadMapModel" (20 : Nat) "BreadMapModel" "numbers" "[J") ∈ xTB := xme_6 rfl (List.mem_of_getElem? (i := 213) (by decide +kernel))
theorem we_169 : (Jvm.Cond.fieldLink "BreadMapModel" (24 : Nat) "BreadMapModel" "tape" "[B") ∈ xTB := xme_6 rfl (List.mem_of_getElem? (i := 214) (by decide +kernel))
theorem we_170 : (Jvm.Cond.fieldLink "BreadMapModel" (28 : Nat) "BreadMapModel" "faultKind" "I") ∈ xTB := xme_6 rfl (List.mem_of_getElem? (i := 217) (by decide +kernel))
theorem we_171 : (Jvm.Cond.fieldLink "BreadMapModel" (32 : Nat) "BreadMapModel" "faultAt" "I") ∈ xTB := xme_6 rfl (List.mem_of_getElem? (i := 218) (by decide +kernel))
theorem we_172 : (Jvm.Cond.fieldLink "BreadMapModel" (35 : Nat) "BreadMapModel" "c" "[I") ∈ xTB := xme_6 rfl (List.mem_of_getElem? (i := 227) (by decide +kernel))
theorem we_173 : (Jvm.Cond.fieldLink "BreadMapModel" (38 : Nat) "BreadMapModel" "kept" "[I") ∈ xTB := xme_6 rfl (List.mem_of_getElem? (i := 228) (by decide +kernel))
theorem we_174 : (Jvm.Cond.fieldLink "BreadMapModel" (41 : Nat) "BreadMapModel" "words" "[J") ∈ xTB := xme_6 rfl (List.mem_of_getElem? (i := 229) (by decide +kernel))
theorem we_175 : (Jvm.Cond.arrayClass Jvm.ClassFile.FieldType.boolean) ∈ xTB := xme_7 rfl (List.mem_of_getElem? (i := 112) (by decide +kernel))
theorem we_176 : (Jvm.Cond.fieldLink "BreadMapModel" (44 : Nat) "BreadMapModel" "seen" "[Z") ∈ xTB := xme_6 rfl (List.mem_of_getElem? (i := 233) (by decide +kernel))
theorem we_177 : (Jvm.Cond.fieldLink "BreadMapModel" (48 : Nat) "BreadMapModel" "out" "[I") ∈ xTB := xme_6 rfl (List.mem_of_getElem? (i := 234) (by decide +kernel))
theorem we_178 : (Jvm.Cond.fieldLink "BreadMapModel" (51 : Nat) "BreadMapModel" "wayTold" "[I") ∈ xTB := xme_6 rfl (List.mem_of_getElem? (i := 235) (by decide +kernel))
theorem we_179 : (Jvm.Cond.fieldLink "BreadMapModel" (54 : Nat) "BreadMapModel" "row" "[I") ∈ xTB := xme_6 rfl (List.mem_of_getElem? (i := 237) (by decide +kernel))
theorem we_180 : (Jvm.Cond.fieldLink "BreadMapModel" (57 : Nat) "BreadMapModel" "stuckLast" "I") ∈ xTB := xme_6 rfl (List.mem_of_getElem? (i := 239) (by decide +kernel))
theorem we_181 : (Jvm.Cond.fieldLink "BreadMapModel" (60 : Nat) "BreadMapModel" "supperTold" "[I") ∈ xTB := xme_7 rfl (List.mem_of_getElem? (i := 3) (by decide +kernel))
theorem we_182 : (Jvm.Cond.fieldLink "BreadMapModel" (63 : Nat) "BreadMapModel" "walks" "[J") ∈ xTB := xme_7 rfl (List.mem_of_getElem? (i := 4) (by decide +kernel))
theorem we_183 : (Jvm.Cond.fieldLink "BreadMapModel" (66 : Nat) "BreadMapModel" "after" "[J") ∈ xTB := xme_7 rfl (List.mem_of_getElem? (i := 5) (by decide +kernel))
theorem we_184 : (Jvm.Cond.fieldLink "BreadMapModel" (69 : Nat) "BreadMapModel" "ranLast" "[I") ∈ xTB := xme_7 rfl (List.mem_of_getElem? (i := 6) (by decide +kernel))
theorem we_185 : (Jvm.Cond.classLink "BreadMapLaw" (7 : Nat) "BreadMap") ∈ xTB := xme_1 rfl (List.mem_of_getElem? (i := 22) (by decide +kernel))
theorem we_186 : (Jvm.Cond.instantiable "BreadMap" (20 : Nat)) ∈ xTB := xme_1 rfl (List.mem_of_getElem? (i := 23) (by decide +kernel))
theorem we_187 : (Jvm.Cond.initialized "BreadMap") ∈ xTB := xme_1 rfl (List.mem_of_getElem? (i := 1) (by decide +kernel))
theorem we_188 : (Jvm.Cond.code ({ cls := "BreadMap", name := "<init>", desc := "()V" } : Jvm.MethodName) prog_1_method_1_code (2 : Nat) (Option.none : Option Jvm.ClassFile.FieldType)) ∈ xTB := xme_1 rfl (List.mem_of_getElem? (i := 26) (by decide +kernel))
theorem we_189 : (Jvm.Cond.methodLink "BreadMapLaw" (9 : Nat) ({ cls := "BreadMap", name := "<init>", desc := "()V" } : Jvm.MethodName)) ∈ xTB := xme_1 rfl (List.mem_of_getElem? (i := 24) (by decide +kernel))
theorem we_190 : (Jvm.Cond.instanceMethod ({ cls := "BreadMap", name := "<init>", desc := "()V" } : Jvm.MethodName)) ∈ xTB := xme_1 rfl (List.mem_of_getElem? (i := 25) (by decide +kernel))
theorem we_191 : (Jvm.Cond.classLink "BreadMapLaw" (10 : Nat) "BreadMapModel") ∈ xTB := xme_6 rfl (List.mem_of_getElem? (i := 201) (by decide +kernel))
theorem we_192 : (Jvm.Cond.instantiable "BreadMapModel" (48 : Nat)) ∈ xTB := xme_6 rfl (List.mem_of_getElem? (i := 202) (by decide +kernel))
theorem we_193 : (Jvm.Cond.initialized "BreadMapModel") ∈ xTB := xme_1 rfl (List.mem_of_getElem? (i := 14) (by decide +kernel))
theorem we_194 : (Jvm.Cond.code ({ cls := "BreadMapModel", name := "<init>", desc := "()V" } : Jvm.MethodName) prog_14_method_1_code (2 : Nat) (Option.none : Option Jvm.ClassFile.FieldType)) ∈ xTB := xme_6 rfl (List.mem_of_getElem? (i := 205) (by decide +kernel))
theorem we_195 : (Jvm.Cond.methodLink "BreadMapLaw" (12 : Nat) ({ cls := "BreadMapModel", name := "<init>", desc := "()V" } : Jvm.MethodName)) ∈ xTB := xme_6 rfl (List.mem_of_getElem? (i := 203) (by decide +kernel))
theorem we_196 : (Jvm.Cond.instanceMethod ({ cls := "BreadMapModel", name := "<init>", desc := "()V" } : Jvm.MethodName)) ∈ xTB := xme_6 rfl (List.mem_of_getElem? (i := 204) (by decide +kernel))
end
