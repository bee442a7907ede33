theorem qc_mark_24_0 {D : zD} {T : zT} (hT : hTab T) (hO : vOK T) {N : Nat} {h : zH} {Q : zR → Prop}  (hv0 : zHv h) (e7 : h 0 7 = (2, 24)) (em : h 0 10 = (0, 0))
    (k0 : Q (zset (zset (zcopy (zcopy (zcopy (zcopy (zset (zset (zcopy (zcopy (zcopy (zcopy (zcopy (zcopy (zcopy (zcopy (zcopy (zset (zset (zset (zset (zset h 55 0 (0, (h 24 0).2)) 55 1 (0, (h 24 1).2)) 55 2 (0, (h 24 2).2)) 55 3 (0, (h 24 3).2)) 55 4 (0, (h 24 4).2)) 25 0 56 0 48) 26 0 57 0 48) 27 0 58 0 144) 28 0 59 0 6) 29 0 60 0 6) 30 0 61 0 6) 31 0 62 0 6) 32 0 63 0 6) 33 0 64 0 6) 65 0 (0, (h 34 0).2)) 65 1 (0, (h 34 1).2)) 35 0 66 0 60) 36 0 67 0 60) 37 0 68 0 60) 38 0 69 0 60) 0 10 (0, 1)) 0 0 (0, 0), some (0, 1))) :
    vP D T N 165 0 h [some (2, 0)] [] Q := by
  refine v_load (v := (2, 0)) (hi_X11_mark_0 hT) rfl rfl ?_
  refine v_getf (v := (0, 0)) (r := 0) (hi_X11_mark_1 hT) rfl rfl (fun _ => em) ?_
  refine v_push (3) (hi_X11_mark_4 hT) rfl ?_
  refine v_ic (hi_X11_mark_5 hT) (fun _ => ?_) (fun hc1 => absurd (show (0 : Int) < 3 from (by decide)) hc1)
  refine v_load (v := (2, 0)) (hi_X11_mark_15 hT) rfl rfl ?_
  refine v_getR (c := 54) (r := 0) (hi_X11_mark_16 hT) rfl rfl rfl ?_
  refine v_load (v := (2, 0)) (hi_X11_mark_19 hT) rfl rfl ?_
  refine v_getf (v := (0, 0)) (r := 0) (hi_X11_mark_20 hT) rfl rfl (fun _ => em) ?_
  refine v_aldV (v := (2, 55)) (r := 54) (hi_X11_mark_23 hT) rfl rfl (fun hv _ _ => hv.ref rfl) (fun ha2 hb3 => ?_)
  refine v_load (v := (2, 0)) (hi_X11_mark_24 hT) rfl rfl ?_
  refine v_getf (v := (2, 24)) (r := 0) (hi_X11_mark_25 hT) rfl rfl (fun _ => e7) ?_
  refine v_call (w := 2) [some (2, 55), some (2, 24)] hO (hi_X11_mark_28 hT) rfl rfl ?_
  refine v_load (v := (2, 55)) (hi_X2_becomeLike_0 hT) rfl rfl ?_
  refine v_load (v := (2, 24)) (hi_X2_becomeLike_1 hT) rfl rfl ?_
  refine v_getI (t := 0) (r := 24) (hi_X2_becomeLike_2 hT) rfl rfl rfl ?_
  refine v_putf (r := 55) hO (hi_X2_becomeLike_5 hT) rfl (fun hf4 => ?_)
  refine v_load (v := (2, 55)) (hi_X2_becomeLike_8 hT) rfl rfl ?_
  refine v_load (v := (2, 24)) (hi_X2_becomeLike_9 hT) rfl rfl ?_
  refine v_getf (v := (0, (h 24 1).2)) (r := 24) (hi_X2_becomeLike_10 hT) rfl rfl (fun hv_ => Eq.trans (zset_ne (fun c => absurd c.1 (by decide))) (hv0.at rfl)) ?_
  refine v_putf (r := 55) hO (hi_X2_becomeLike_13 hT) rfl (fun hf5 => ?_)
  refine v_load (v := (2, 55)) (hi_X2_becomeLike_16 hT) rfl rfl ?_
  refine v_load (v := (2, 24)) (hi_X2_becomeLike_17 hT) rfl rfl ?_
  refine v_getf (v := (0, (h 24 2).2)) (r := 24) (hi_X2_becomeLike_18 hT) rfl rfl (fun hv_ => Eq.trans (Eq.trans (zset_ne (fun c => absurd c.1 (by decide))) (zset_ne (fun c => absurd c.1 (by decide)))) (hv0.at rfl)) ?_
  refine v_putf (r := 55) hO (hi_X2_becomeLike_21 hT) rfl (fun hf6 => ?_)
  refine v_load (v := (2, 55)) (hi_X2_becomeLike_24 hT) rfl rfl ?_
  refine v_load (v := (2, 24)) (hi_X2_becomeLike_25 hT) rfl rfl ?_
  refine v_getf (v := (0, (h 24 3).2)) (r := 24) (hi_X2_becomeLike_26 hT) rfl rfl (fun hv_ => Eq.trans (Eq.trans (zset_ne (fun c => absurd c.1 (by decide))) (Eq.trans (zset_ne (fun c => absurd c.1 (by decide))) (zset_ne (fun c => absurd c.1 (by decide))))) (hv0.at rfl)) ?_
  refine v_putf (r := 55) hO (hi_X2_becomeLike_29 hT) rfl (fun hf7 => ?_)
  refine v_load (v := (2, 55)) (hi_X2_becomeLike_32 hT) rfl rfl ?_
  refine v_load (v := (2, 24)) (hi_X2_becomeLike_33 hT) rfl rfl ?_
  refine v_getf (v := (0, (h 24 4).2)) (r := 24) (hi_X2_becomeLike_34 hT) rfl rfl (fun hv_ => Eq.trans (Eq.trans (zset_ne (fun c => absurd c.1 (by decide))) (Eq.trans (zset_ne (fun c => absurd c.1 (by decide))) (Eq.trans (zset_ne (fun c => absurd c.1 (by decide))) (zset_ne (fun c => absurd c.1 (by decide)))))) (hv0.at rfl)) ?_
  refine v_putf (r := 55) hO (hi_X2_becomeLike_37 hT) rfl (fun hf8 => ?_)
  refine v_load (v := (2, 24)) (hi_X2_becomeLike_40 hT) rfl rfl ?_
  refine v_getR (c := 25) (r := 24) (hi_X2_becomeLike_41 hT) rfl rfl rfl ?_
  refine v_push (0) (hi_X2_becomeLike_44 hT) rfl ?_
  refine v_load (v := (2, 55)) (hi_X2_becomeLike_45 hT) rfl rfl ?_
  refine v_getR (c := 56) (r := 55) (hi_X2_becomeLike_46 hT) rfl rfl rfl ?_
  refine v_push (0) (hi_X2_becomeLike_49 hT) rfl ?_
  refine v_push (48) (hi_X2_becomeLike_50 hT) rfl ?_
  refine v_copy (r0 := 25) (r1 := 56) (hi_X2_becomeLike_52 hT) rfl rfl rfl rfl (fun hd9 hd10 hd11 hd12 hd13 => ?_)
  refine v_load (v := (2, 24)) (hi_X2_becomeLike_55 hT) rfl rfl ?_
  refine v_getR (c := 26) (r := 24) (hi_X2_becomeLike_56 hT) rfl rfl rfl ?_
  refine v_push (0) (hi_X2_becomeLike_59 hT) rfl ?_
  refine v_load (v := (2, 55)) (hi_X2_becomeLike_60 hT) rfl rfl ?_
  refine v_getR (c := 57) (r := 55) (hi_X2_becomeLike_61 hT) rfl rfl rfl ?_
  refine v_push (0) (hi_X2_becomeLike_64 hT) rfl ?_
  refine v_push (48) (hi_X2_becomeLike_65 hT) rfl ?_
  refine v_copy (r0 := 26) (r1 := 57) (hi_X2_becomeLike_67 hT) rfl rfl rfl rfl (fun hd14 hd15 hd16 hd17 hd18 => ?_)
  refine v_load (v := (2, 24)) (hi_X2_becomeLike_70 hT) rfl rfl ?_
  refine v_getR (c := 27) (r := 24) (hi_X2_becomeLike_71 hT) rfl rfl rfl ?_
  refine v_push (0) (hi_X2_becomeLike_74 hT) rfl ?_
  refine v_load (v := (2, 55)) (hi_X2_becomeLike_75 hT) rfl rfl ?_
  refine v_getR (c := 58) (r := 55) (hi_X2_becomeLike_76 hT) rfl rfl rfl ?_
  refine v_push (0) (hi_X2_becomeLike_79 hT) rfl ?_
  refine v_push (144) (hi_X2_becomeLike_80 hT) rfl ?_
  refine v_copy (r0 := 27) (r1 := 58) (hi_X2_becomeLike_83 hT) rfl rfl rfl rfl (fun hd19 hd20 hd21 hd22 hd23 => ?_)
  refine v_load (v := (2, 24)) (hi_X2_becomeLike_86 hT) rfl rfl ?_
  refine v_getR (c := 28) (r := 24) (hi_X2_becomeLike_87 hT) rfl rfl rfl ?_
  refine v_push (0) (hi_X2_becomeLike_90 hT) rfl ?_
  refine v_load (v := (2, 55)) (hi_X2_becomeLike_91 hT) rfl rfl ?_
  refine v_getR (c := 59) (r := 55) (hi_X2_becomeLike_92 hT) rfl rfl rfl ?_
  refine v_push (0) (hi_X2_becomeLike_95 hT) rfl ?_
  refine v_push (6) (hi_X2_becomeLike_96 hT) rfl ?_
  refine v_copy (r0 := 28) (r1 := 59) (hi_X2_becomeLike_98 hT) rfl rfl rfl rfl (fun hd24 hd25 hd26 hd27 hd28 => ?_)
  refine v_load (v := (2, 24)) (hi_X2_becomeLike_101 hT) rfl rfl ?_
  refine v_getR (c := 29) (r := 24) (hi_X2_becomeLike_102 hT) rfl rfl rfl ?_
  refine v_push (0) (hi_X2_becomeLike_105 hT) rfl ?_
  refine v_load (v := (2, 55)) (hi_X2_becomeLike_106 hT) rfl rfl ?_
  refine v_getR (c := 60) (r := 55) (hi_X2_becomeLike_107 hT) rfl rfl rfl ?_
  refine v_push (0) (hi_X2_becomeLike_110 hT) rfl ?_
  refine v_push (6) (hi_X2_becomeLike_111 hT) rfl ?_
  refine v_copy (r0 := 29) (r1 := 60) (hi_X2_becomeLike_113 hT) rfl rfl rfl rfl (fun hd29 hd30 hd31 hd32 hd33 => ?_)
  refine v_load (v := (2, 24)) (hi_X2_becomeLike_116 hT) rfl rfl ?_
  refine v_getR (c := 30) (r := 24) (hi_X2_becomeLike_117 hT) rfl rfl rfl ?_
  refine v_push (0) (hi_X2_becomeLike_120 hT) rfl ?_
  refine v_load (v := (2, 55)) (hi_X2_becomeLike_121 hT) rfl rfl ?_
  refine v_getR (c := 61) (r := 55) (hi_X2_becomeLike_122 hT) rfl rfl rfl ?_
  refine v_push (0) (hi_X2_becomeLike_125 hT) rfl ?_
  refine v_push (6) (hi_X2_becomeLike_126 hT) rfl ?_
  refine v_copy (r0 := 30) (r1 := 61) (hi_X2_becomeLike_128 hT) rfl rfl rfl rfl (fun hd34 hd35 hd36 hd37 hd38 => ?_)
  refine v_load (v := (2, 24)) (hi_X2_becomeLike_131 hT) rfl rfl ?_
  refine v_getR (c := 31) (r := 24) (hi_X2_becomeLike_132 hT) rfl rfl rfl ?_
  refine v_push (0) (hi_X2_becomeLike_135 hT) rfl ?_
  refine v_load (v := (2, 55)) (hi_X2_becomeLike_136 hT) rfl rfl ?_
  refine v_getR (c := 62) (r := 55) (hi_X2_becomeLike_137 hT) rfl rfl rfl ?_
  refine v_push (0) (hi_X2_becomeLike_140 hT) rfl ?_
  refine v_push (6) (hi_X2_becomeLike_141 hT) rfl ?_
  refine v_copy (r0 := 31) (r1 := 62) (hi_X2_becomeLike_143 hT) rfl rfl rfl rfl (fun hd39 hd40 hd41 hd42 hd43 => ?_)
  refine v_load (v := (2, 24)) (hi_X2_becomeLike_146 hT) rfl rfl ?_
  refine v_getR (c := 32) (r := 24) (hi_X2_becomeLike_147 hT) rfl rfl rfl ?_
  refine v_push (0) (hi_X2_becomeLike_150 hT) rfl ?_
  refine v_load (v := (2, 55)) (hi_X2_becomeLike_151 hT) rfl rfl ?_
  refine v_getR (c := 63) (r := 55) (hi_X2_becomeLike_152 hT) rfl rfl rfl ?_
  refine v_push (0) (hi_X2_becomeLike_155 hT) rfl ?_
  refine v_push (6) (hi_X2_becomeLike_156 hT) rfl ?_
  refine v_copy (r0 := 32) (r1 := 63) (hi_X2_becomeLike_158 hT) rfl rfl rfl rfl (fun hd44 hd45 hd46 hd47 hd48 => ?_)
  refine v_load (v := (2, 24)) (hi_X2_becomeLike_161 hT) rfl rfl ?_
  refine v_getR (c := 33) (r := 24) (hi_X2_becomeLike_162 hT) rfl rfl rfl ?_
  refine v_push (0) (hi_X2_becomeLike_165 hT) rfl ?_
  refine v_load (v := (2, 55)) (hi_X2_becomeLike_166 hT) rfl rfl ?_
  refine v_getR (c := 64) (r := 55) (hi_X2_becomeLike_167 hT) rfl rfl rfl ?_
  refine v_push (0) (hi_X2_becomeLike_170 hT) rfl ?_
  refine v_push (6) (hi_X2_becomeLike_171 hT) rfl ?_
  refine v_copy (r0 := 33) (r1 := 64) (hi_X2_becomeLike_173 hT) rfl rfl rfl rfl (fun hd49 hd50 hd51 hd52 hd53 => ?_)
  refine v_load (v := (2, 55)) (hi_X2_becomeLike_176 hT) rfl rfl ?_
  refine v_getR (c := 65) (r := 55) (hi_X2_becomeLike_177 hT) rfl rfl rfl ?_
  refine v_load (v := (2, 24)) (hi_X2_becomeLike_180 hT) rfl rfl ?_
  refine v_getR (c := 34) (r := 24) (hi_X2_becomeLike_181 hT) rfl rfl rfl ?_
  refine v_call (w := 2) [some (2, 65), some (2, 34)] hO (hi_X2_becomeLike_184 hT) rfl rfl ?_
  refine v_load (v := (2, 65)) (hi_X5_becomeLike_0 hT) rfl rfl ?_
  refine v_load (v := (2, 34)) (hi_X5_becomeLike_1 hT) rfl rfl ?_
  refine v_getf (v := (0, (h 34 0).2)) (r := 34) (hi_X5_becomeLike_2 hT) rfl rfl (fun hv_ => Eq.trans (Eq.trans (vcopy_ne (fun c => absurd c.1 (by decide))) (Eq.trans (vcopy_ne (fun c => absurd c.1 (by decide))) (Eq.trans (vcopy_ne (fun c => absurd c.1 (by decide))) (Eq.trans (vcopy_ne (fun c => absurd c.1 (by decide))) (Eq.trans (vcopy_ne (fun c => absurd c.1 (by decide))) (Eq.trans (vcopy_ne (fun c => absurd c.1 (by decide))) (Eq.trans (vcopy_ne (fun c => absurd c.1 (by decide))) (Eq.trans (vcopy_ne (fun c => absurd c.1 (by decide))) (Eq.trans (vcopy_ne (fun c => absurd c.1 (by decide))) (Eq.trans (zset_ne (fun c => absurd c.1 (by decide))) (Eq.trans (zset_ne (fun c => absurd c.1 (by decide))) (Eq.trans (zset_ne (fun c => absurd c.1 (by decide))) (Eq.trans (zset_ne (fun c => absurd c.1 (by decide))) (zset_ne (fun c => absurd c.1 (by decide)))))))))))))))) (hv0.at rfl)) ?_
  refine v_putf (r := 65) hO (hi_X5_becomeLike_5 hT) rfl (fun hf54 => ?_)
  refine v_load (v := (2, 65)) (hi_X5_becomeLike_8 hT) rfl rfl ?_
  refine v_load (v := (2, 34)) (hi_X5_becomeLike_9 hT) rfl rfl ?_
  refine v_getf (v := (0, (h 34 1).2)) (r := 34) (hi_X5_becomeLike_10 hT) rfl rfl (fun hv_ => Eq.trans (Eq.trans (zset_ne (fun c => absurd c.1 (by decide))) (Eq.trans (vcopy_ne (fun c => absurd c.1 (by decide))) (Eq.trans (vcopy_ne (fun c => absurd c.1 (by decide))) (Eq.trans (vcopy_ne (fun c => absurd c.1 (by decide))) (Eq.trans (vcopy_ne (fun c => absurd c.1 (by decide))) (Eq.trans (vcopy_ne (fun c => absurd c.1 (by decide))) (Eq.trans (vcopy_ne (fun c => absurd c.1 (by decide))) (Eq.trans (vcopy_ne (fun c => absurd c.1 (by decide))) (Eq.trans (vcopy_ne (fun c => absurd c.1 (by decide))) (Eq.trans (vcopy_ne (fun c => absurd c.1 (by decide))) (Eq.trans (zset_ne (fun c => absurd c.1 (by decide))) (Eq.trans (zset_ne (fun c => absurd c.1 (by decide))) (Eq.trans (zset_ne (fun c => absurd c.1 (by decide))) (Eq.trans (zset_ne (fun c => absurd c.1 (by decide))) (zset_ne (fun c => absurd c.1 (by decide))))))))))))))))) (hv0.at rfl)) ?_
  refine v_putf (r := 65) hO (hi_X5_becomeLike_13 hT) rfl (fun hf55 => ?_)
  refine v_load (v := (2, 34)) (hi_X5_becomeLike_16 hT) rfl rfl ?_
  refine v_getR (c := 35) (r := 34) (hi_X5_becomeLike_17 hT) rfl rfl rfl ?_
  refine v_push (0) (hi_X5_becomeLike_20 hT) rfl ?_
  refine v_load (v := (2, 65)) (hi_X5_becomeLike_21 hT) rfl rfl ?_
  refine v_getR (c := 66) (r := 65) (hi_X5_becomeLike_22 hT) rfl rfl rfl ?_
  refine v_push (0) (hi_X5_becomeLike_25 hT) rfl ?_
  refine v_push (60) (hi_X5_becomeLike_26 hT) rfl ?_
  refine v_copy (r0 := 35) (r1 := 66) (hi_X5_becomeLike_28 hT) rfl rfl rfl rfl (fun hd56 hd57 hd58 hd59 hd60 => ?_)
  refine v_load (v := (2, 34)) (hi_X5_becomeLike_31 hT) rfl rfl ?_
  refine v_getR (c := 36) (r := 34) (hi_X5_becomeLike_32 hT) rfl rfl rfl ?_
  refine v_push (0) (hi_X5_becomeLike_35 hT) rfl ?_
  refine v_load (v := (2, 65)) (hi_X5_becomeLike_36 hT) rfl rfl ?_
  refine v_getR (c := 67) (r := 65) (hi_X5_becomeLike_37 hT) rfl rfl rfl ?_
  refine v_push (0) (hi_X5_becomeLike_40 hT) rfl ?_
  refine v_push (60) (hi_X5_becomeLike_41 hT) rfl ?_
  refine v_copy (r0 := 36) (r1 := 67) (hi_X5_becomeLike_43 hT) rfl rfl rfl rfl (fun hd61 hd62 hd63 hd64 hd65 => ?_)
  refine v_load (v := (2, 34)) (hi_X5_becomeLike_46 hT) rfl rfl ?_
  refine v_getR (c := 37) (r := 34) (hi_X5_becomeLike_47 hT) rfl rfl rfl ?_
  refine v_push (0) (hi_X5_becomeLike_50 hT) rfl ?_
  refine v_load (v := (2, 65)) (hi_X5_becomeLike_51 hT) rfl rfl ?_
  refine v_getR (c := 68) (r := 65) (hi_X5_becomeLike_52 hT) rfl rfl rfl ?_
  refine v_push (0) (hi_X5_becomeLike_55 hT) rfl ?_
  refine v_push (60) (hi_X5_becomeLike_56 hT) rfl ?_
  refine v_copy (r0 := 37) (r1 := 68) (hi_X5_becomeLike_58 hT) rfl rfl rfl rfl (fun hd66 hd67 hd68 hd69 hd70 => ?_)
  refine v_load (v := (2, 34)) (hi_X5_becomeLike_61 hT) rfl rfl ?_
  refine v_getR (c := 38) (r := 34) (hi_X5_becomeLike_62 hT) rfl rfl rfl ?_
  refine v_push (0) (hi_X5_becomeLike_65 hT) rfl ?_
  refine v_load (v := (2, 65)) (hi_X5_becomeLike_66 hT) rfl rfl ?_
  refine v_getR (c := 69) (r := 65) (hi_X5_becomeLike_67 hT) rfl rfl rfl ?_
  refine v_push (0) (hi_X5_becomeLike_70 hT) rfl ?_
  refine v_push (60) (hi_X5_becomeLike_71 hT) rfl ?_
  refine v_copy (r0 := 38) (r1 := 69) (hi_X5_becomeLike_73 hT) rfl rfl rfl rfl (fun hd71 hd72 hd73 hd74 hd75 => ?_)
  refine v_ret0 (hi_X5_becomeLike_76 hT) ?_
  show vP D T N 25 187 (zcopy (zcopy (zcopy (zcopy (zset (zset (zcopy (zcopy (zcopy (zcopy (zcopy (zcopy (zcopy (zcopy (zcopy (zset (zset (zset (zset (zset h 55 0 (0, (h 24 0).2)) 55 1 (0, (h 24 1).2)) 55 2 (0, (h 24 2).2)) 55 3 (0, (h 24 3).2)) 55 4 (0, (h 24 4).2)) 25 0 56 0 48) 26 0 57 0 48) 27 0 58 0 144) 28 0 59 0 6) 29 0 60 0 6) 30 0 61 0 6) 31 0 62 0 6) 32 0 63 0 6) 33 0 64 0 6) 65 0 (0, (h 34 0).2)) 65 1 (0, (h 34 1).2)) 35 0 66 0 60) 36 0 67 0 60) 37 0 68 0 60) 38 0 69 0 60) [some (2, 55), some (2, 24)] [] _
  refine v_ret0 (hi_X2_becomeLike_187 hT) ?_
  show vP D T N 165 31 (zcopy (zcopy (zcopy (zcopy (zset (zset (zcopy (zcopy (zcopy (zcopy (zcopy (zcopy (zcopy (zcopy (zcopy (zset (zset (zset (zset (zset h 55 0 (0, (h 24 0).2)) 55 1 (0, (h 24 1).2)) 55 2 (0, (h 24 2).2)) 55 3 (0, (h 24 3).2)) 55 4 (0, (h 24 4).2)) 25 0 56 0 48) 26 0 57 0 48) 27 0 58 0 144) 28 0 59 0 6) 29 0 60 0 6) 30 0 61 0 6) 31 0 62 0 6) 32 0 63 0 6) 33 0 64 0 6) 65 0 (0, (h 34 0).2)) 65 1 (0, (h 34 1).2)) 35 0 66 0 60) 36 0 67 0 60) 37 0 68 0 60) 38 0 69 0 60) [some (2, 0)] [] _
  refine v_load (v := (2, 0)) (hi_X11_mark_31 hT) rfl rfl ?_
  refine v_dup (hi_X11_mark_32 hT) (Nat.ne_of_beq_eq_false rfl) ?_
  refine v_getf (v := (0, 0)) (r := 0) (hi_X11_mark_33 hT) rfl rfl (fun _ => Eq.trans (Eq.trans (vcopy_ne (fun c => absurd c.1 (by decide))) (Eq.trans (vcopy_ne (fun c => absurd c.1 (by decide))) (Eq.trans (vcopy_ne (fun c => absurd c.1 (by decide))) (Eq.trans (vcopy_ne (fun c => absurd c.1 (by decide))) (Eq.trans (zset_ne (fun c => absurd c.1 (by decide))) (Eq.trans (zset_ne (fun c => absurd c.1 (by decide))) (Eq.trans (vcopy_ne (fun c => absurd c.1 (by decide))) (Eq.trans (vcopy_ne (fun c => absurd c.1 (by decide))) (Eq.trans (vcopy_ne (fun c => absurd c.1 (by decide))) (Eq.trans (vcopy_ne (fun c => absurd c.1 (by decide))) (Eq.trans (vcopy_ne (fun c => absurd c.1 (by decide))) (Eq.trans (vcopy_ne (fun c => absurd c.1 (by decide))) (Eq.trans (vcopy_ne (fun c => absurd c.1 (by decide))) (Eq.trans (vcopy_ne (fun c => absurd c.1 (by decide))) (Eq.trans (vcopy_ne (fun c => absurd c.1 (by decide))) (Eq.trans (zset_ne (fun c => absurd c.1 (by decide))) (Eq.trans (zset_ne (fun c => absurd c.1 (by decide))) (Eq.trans (zset_ne (fun c => absurd c.1 (by decide))) (Eq.trans (zset_ne (fun c => absurd c.1 (by decide))) (zset_ne (fun c => absurd c.1 (by decide)))))))))))))))))))))) (em)) ?_
  refine v_push (1) (hi_X11_mark_36 hT) rfl ?_
  refine v_bin (w := 1) (hi_X11_mark_37 hT) (by decide) ?_
  refine v_putf (r := 0) hO (hi_X11_mark_38 hT) rfl (fun hf76 => ?_)
  refine v_load (v := (2, 0)) (hi_X11_mark_41 hT) rfl rfl ?_
  refine v_load (v := (2, 0)) (hi_X11_mark_42 hT) rfl rfl ?_
  refine v_getf (v := (0, 1)) (r := 0) (hi_X11_mark_43 hT) rfl rfl (fun _ => zset_same) ?_
  refine v_call (w := 2) [some (2, 0), some (0, 1)] hO (hi_X11_mark_46 hT) rfl rfl ?_
  refine v_load (v := (2, 0)) (hi_X11_answer_0 hT) rfl rfl ?_
  refine v_push (0) (hi_X11_answer_1 hT) rfl ?_
  refine v_putf (r := 0) hO (hi_X11_answer_2 hT) rfl (fun hf77 => ?_)
  refine v_load (v := (0, 1)) (hi_X11_answer_5 hT) rfl rfl ?_
  refine v_ret (hi_X11_answer_6 hT) (Or.inl rfl) ?_
  show vP D T N 165 49 (zset (zset (zcopy (zcopy (zcopy (zcopy (zset (zset (zcopy (zcopy (zcopy (zcopy (zcopy (zcopy (zcopy (zcopy (zcopy (zset (zset (zset (zset (zset h 55 0 (0, (h 24 0).2)) 55 1 (0, (h 24 1).2)) 55 2 (0, (h 24 2).2)) 55 3 (0, (h 24 3).2)) 55 4 (0, (h 24 4).2)) 25 0 56 0 48) 26 0 57 0 48) 27 0 58 0 144) 28 0 59 0 6) 29 0 60 0 6) 30 0 61 0 6) 31 0 62 0 6) 32 0 63 0 6) 33 0 64 0 6) 65 0 (0, (h 34 0).2)) 65 1 (0, (h 34 1).2)) 35 0 66 0 60) 36 0 67 0 60) 37 0 68 0 60) 38 0 69 0 60) 0 10 (0, 1)) 0 0 (0, 0)) [some (2, 0)] [(0, 1)] _
  refine v_ret (hi_X11_mark_49 hT) (Or.inl rfl) ?_
  exact k0 
theorem qc_back_24_0 {D : zD} {T : zT} (hT : hTab T) (hO : vOK T) {N : Nat} {h : zH} {Q : zR → Prop}  (hv0 : zHv h) (e7 : h 0 7 = (2, 24)) (em : h 0 10 = (0, 1))
    (k0 : Q (zset (zcopy (zcopy (zcopy (zcopy (zset (zset (zcopy (zcopy (zcopy (zcopy (zcopy (zcopy (zcopy (zcopy (zcopy (zset (zset (zset (zset (zset (zset h 0 10 (0, 0)) 24 0 (0, (h 55 0).2)) 24 1 (0, (h 55 1).2)) 24 2 (0, (h 55 2).2)) 24 3 (0, (h 55 3).2)) 24 4 (0, (h 55 4).2)) 56 0 25 0 48) 57 0 26 0 48) 58 0 27 0 144) 59 0 28 0 6) 60 0 29 0 6) 61 0 30 0 6) 62 0 31 0 6) 63 0 32 0 6) 64 0 33 0 6) 34 0 (0, (h 65 0).2)) 34 1 (0, (h 65 1).2)) 66 0 35 0 60) 67 0 36 0 60) 68 0 37 0 60) 69 0 38 0 60) 0 0 (0, 0), some (0, 0))) :
    vP D T N 144 0 h [some (2, 0)] [] Q := by
  refine v_load (v := (2, 0)) (hi_X11_back_0 hT) rfl rfl ?_
  refine v_getf (v := (0, 1)) (r := 0) (hi_X11_back_1 hT) rfl rfl (fun _ => em) ?_
  refine v_if (hi_X11_back_4 hT) (fun _ => ?_) (fun hc1 => absurd (show 0 < (1 : Int) from (by decide)) hc1)
  refine v_load (v := (2, 0)) (hi_X11_back_14 hT) rfl rfl ?_
  refine v_dup (hi_X11_back_15 hT) (Nat.ne_of_beq_eq_false rfl) ?_
  refine v_getf (v := (0, 1)) (r := 0) (hi_X11_back_16 hT) rfl rfl (fun _ => em) ?_
  refine v_push (1) (hi_X11_back_19 hT) rfl ?_
  refine v_bin (w := 0) (hi_X11_back_20 hT) (by decide) ?_
  refine v_putf (r := 0) hO (hi_X11_back_21 hT) rfl (fun hf2 => ?_)
  refine v_load (v := (2, 0)) (hi_X11_back_24 hT) rfl rfl ?_
  refine v_getf (v := (2, 24)) (r := 0) (hi_X11_back_25 hT) rfl rfl (fun _ => Eq.trans (zset_ne (fun c => absurd c.2 (by decide))) (e7)) ?_
  refine v_load (v := (2, 0)) (hi_X11_back_28 hT) rfl rfl ?_
  refine v_getR (c := 54) (r := 0) (hi_X11_back_29 hT) rfl rfl rfl ?_
  refine v_load (v := (2, 0)) (hi_X11_back_32 hT) rfl rfl ?_
  refine v_getf (v := (0, 0)) (r := 0) (hi_X11_back_33 hT) rfl rfl (fun _ => zset_same) ?_
  refine v_aldV (v := (2, 55)) (r := 54) (hi_X11_back_36 hT) rfl rfl (fun hv _ _ => hv.ref rfl) (fun ha3 hb4 => ?_)
  refine v_call (w := 2) [some (2, 24), some (2, 55)] hO (hi_X11_back_37 hT) rfl rfl ?_
  refine v_load (v := (2, 24)) (hi_X2_becomeLike_0 hT) rfl rfl ?_
  refine v_load (v := (2, 55)) (hi_X2_becomeLike_1 hT) rfl rfl ?_
  refine v_getf (v := (0, (h 55 0).2)) (r := 55) (hi_X2_becomeLike_2 hT) rfl rfl (fun hv_ => Eq.trans (zset_ne (fun c => absurd c.1 (by decide))) (hv0.at rfl)) ?_
  refine v_putf (r := 24) hO (hi_X2_becomeLike_5 hT) rfl (fun hf5 => ?_)
  refine v_load (v := (2, 24)) (hi_X2_becomeLike_8 hT) rfl rfl ?_
  refine v_load (v := (2, 55)) (hi_X2_becomeLike_9 hT) rfl rfl ?_
  refine v_getf (v := (0, (h 55 1).2)) (r := 55) (hi_X2_becomeLike_10 hT) rfl rfl (fun hv_ => Eq.trans (Eq.trans (zset_ne (fun c => absurd c.1 (by decide))) (zset_ne (fun c => absurd c.1 (by decide)))) (hv0.at rfl)) ?_
  refine v_putf (r := 24) hO (hi_X2_becomeLike_13 hT) rfl (fun hf6 => ?_)
  refine v_load (v := (2, 24)) (hi_X2_becomeLike_16 hT) rfl rfl ?_
  refine v_load (v := (2, 55)) (hi_X2_becomeLike_17 hT) rfl rfl ?_
  refine v_getf (v := (0, (h 55 2).2)) (r := 55) (hi_X2_becomeLike_18 hT) rfl rfl (fun hv_ => Eq.trans (Eq.trans (zset_ne (fun c => absurd c.1 (by decide))) (Eq.trans (zset_ne (fun c => absurd c.1 (by decide))) (zset_ne (fun c => absurd c.1 (by decide))))) (hv0.at rfl)) ?_
  refine v_putf (r := 24) hO (hi_X2_becomeLike_21 hT) rfl (fun hf7 => ?_)
  refine v_load (v := (2, 24)) (hi_X2_becomeLike_24 hT) rfl rfl ?_
  refine v_load (v := (2, 55)) (hi_X2_becomeLike_25 hT) rfl rfl ?_
  refine v_getf (v := (0, (h 55 3).2)) (r := 55) (hi_X2_becomeLike_26 hT) rfl rfl (fun hv_ => Eq.trans (Eq.trans (zset_ne (fun c => absurd c.1 (by decide))) (Eq.trans (zset_ne (fun c => absurd c.1 (by decide))) (Eq.trans (zset_ne (fun c => absurd c.1 (by decide))) (zset_ne (fun c => absurd c.1 (by decide)))))) (hv0.at rfl)) ?_
  refine v_putf (r := 24) hO (hi_X2_becomeLike_29 hT) rfl (fun hf8 => ?_)
  refine v_load (v := (2, 24)) (hi_X2_becomeLike_32 hT) rfl rfl ?_
  refine v_load (v := (2, 55)) (hi_X2_becomeLike_33 hT) rfl rfl ?_
  refine v_getf (v := (0, (h 55 4).2)) (r := 55) (hi_X2_becomeLike_34 hT) rfl rfl (fun hv_ => Eq.trans (Eq.trans (zset_ne (fun c => absurd c.1 (by decide))) (Eq.trans (zset_ne (fun c => absurd c.1 (by decide))) (Eq.trans (zset_ne (fun c => absurd c.1 (by decide))) (Eq.trans (zset_ne (fun c => absurd c.1 (by decide))) (zset_ne (fun c => absurd c.1 (by decide))))))) (hv0.at rfl)) ?_
  refine v_putf (r := 24) hO (hi_X2_becomeLike_37 hT) rfl (fun hf9 => ?_)
  refine v_load (v := (2, 55)) (hi_X2_becomeLike_40 hT) rfl rfl ?_
  refine v_getR (c := 56) (r := 55) (hi_X2_becomeLike_41 hT) rfl rfl rfl ?_
  refine v_push (0) (hi_X2_becomeLike_44 hT) rfl ?_
  refine v_load (v := (2, 24)) (hi_X2_becomeLike_45 hT) rfl rfl ?_
  refine v_getR (c := 25) (r := 24) (hi_X2_becomeLike_46 hT) rfl rfl rfl ?_
  refine v_push (0) (hi_X2_becomeLike_49 hT) rfl ?_
  refine v_push (48) (hi_X2_becomeLike_50 hT) rfl ?_
  refine v_copy (r0 := 56) (r1 := 25) (hi_X2_becomeLike_52 hT) rfl rfl rfl rfl (fun hd10 hd11 hd12 hd13 hd14 => ?_)
  refine v_load (v := (2, 55)) (hi_X2_becomeLike_55 hT) rfl rfl ?_
  refine v_getR (c := 57) (r := 55) (hi_X2_becomeLike_56 hT) rfl rfl rfl ?_
  refine v_push (0) (hi_X2_becomeLike_59 hT) rfl ?_
  refine v_load (v := (2, 24)) (hi_X2_becomeLike_60 hT) rfl rfl ?_
  refine v_getR (c := 26) (r := 24) (hi_X2_becomeLike_61 hT) rfl rfl rfl ?_
  refine v_push (0) (hi_X2_becomeLike_64 hT) rfl ?_
  refine v_push (48) (hi_X2_becomeLike_65 hT) rfl ?_
  refine v_copy (r0 := 57) (r1 := 26) (hi_X2_becomeLike_67 hT) rfl rfl rfl rfl (fun hd15 hd16 hd17 hd18 hd19 => ?_)
  refine v_load (v := (2, 55)) (hi_X2_becomeLike_70 hT) rfl rfl ?_
  refine v_getR (c := 58) (r := 55) (hi_X2_becomeLike_71 hT) rfl rfl rfl ?_
  refine v_push (0) (hi_X2_becomeLike_74 hT) rfl ?_
  refine v_load (v := (2, 24)) (hi_X2_becomeLike_75 hT) rfl rfl ?_
  refine v_getR (c := 27) (r := 24) (hi_X2_becomeLike_76 hT) rfl rfl rfl ?_
  refine v_push (0) (hi_X2_becomeLike_79 hT) rfl ?_
  refine v_push (144) (hi_X2_becomeLike_80 hT) rfl ?_
  refine v_copy (r0 := 58) (r1 := 27) (hi_X2_becomeLike_83 hT) rfl rfl rfl rfl (fun hd20 hd21 hd22 hd23 hd24 => ?_)
  refine v_load (v := (2, 55)) (hi_X2_becomeLike_86 hT) rfl rfl ?_
  refine v_getR (c := 59) (r := 55) (hi_X2_becomeLike_87 hT) rfl rfl rfl ?_
  refine v_push (0) (hi_X2_becomeLike_90 hT) rfl ?_
  refine v_load (v := (2, 24)) (hi_X2_becomeLike_91 hT) rfl rfl ?_
  refine v_getR (c := 28) (r := 24) (hi_X2_becomeLike_92 hT) rfl rfl rfl ?_
  refine v_push (0) (hi_X2_becomeLike_95 hT) rfl ?_
  refine v_push (6) (hi_X2_becomeLike_96 hT) rfl ?_
  refine v_copy (r0 := 59) (r1 := 28) (hi_X2_becomeLike_98 hT) rfl rfl rfl rfl (fun hd25 hd26 hd27 hd28 hd29 => ?_)
  refine v_load (v := (2, 55)) (hi_X2_becomeLike_101 hT) rfl rfl ?_
  refine v_getR (c := 60) (r := 55) (hi_X2_becomeLike_102 hT) rfl rfl rfl ?_
  refine v_push (0) (hi_X2_becomeLike_105 hT) rfl ?_
  refine v_load (v := (2, 24)) (hi_X2_becomeLike_106 hT) rfl rfl ?_
  refine v_getR (c := 29) (r := 24) (hi_X2_becomeLike_107 hT) rfl rfl rfl ?_
  refine v_push (0) (hi_X2_becomeLike_110 hT) rfl ?_
  refine v_push (6) (hi_X2_becomeLike_111 hT) rfl ?_
  refine v_copy (r0 := 60) (r1 := 29) (hi_X2_becomeLike_113 hT) rfl rfl rfl rfl (fun hd30 hd31 hd32 hd33 hd34 => ?_)
  refine v_load (v := (2, 55)) (hi_X2_becomeLike_116 hT) rfl rfl ?_
  refine v_getR (c := 61) (r := 55) (hi_X2_becomeLike_117 hT) rfl rfl rfl ?_
  refine v_push (0) (hi_X2_becomeLike_120 hT) rfl ?_
  refine v_load (v := (2, 24)) (hi_X2_becomeLike_121 hT) rfl rfl ?_
  refine v_getR (c := 30) (r := 24) (hi_X2_becomeLike_122 hT) rfl rfl rfl ?_
  refine v_push (0) (hi_X2_becomeLike_125 hT) rfl ?_
  refine v_push (6) (hi_X2_becomeLike_126 hT) rfl ?_
  refine v_copy (r0 := 61) (r1 := 30) (hi_X2_becomeLike_128 hT) rfl rfl rfl rfl (fun hd35 hd36 hd37 hd38 hd39 => ?_)
  refine v_load (v := (2, 55)) (hi_X2_becomeLike_131 hT) rfl rfl ?_
  refine v_getR (c := 62) (r := 55) (hi_X2_becomeLike_132 hT) rfl rfl rfl ?_
  refine v_push (0) (hi_X2_becomeLike_135 hT) rfl ?_
  refine v_load (v := (2, 24)) (hi_X2_becomeLike_136 hT) rfl rfl ?_
  refine v_getR (c := 31) (r := 24) (hi_X2_becomeLike_137 hT) rfl rfl rfl ?_
  refine v_push (0) (hi_X2_becomeLike_140 hT) rfl ?_
  refine v_push (6) (hi_X2_becomeLike_141 hT) rfl ?_
  refine v_copy (r0 := 62) (r1 := 31) (hi_X2_becomeLike_143 hT) rfl rfl rfl rfl (fun hd40 hd41 hd42 hd43 hd44 => ?_)
  refine v_load (v := (2, 55)) (hi_X2_becomeLike_146 hT) rfl rfl ?_
  refine v_getR (c := 63) (r := 55) (hi_X2_becomeLike_147 hT) rfl rfl rfl ?_
  refine v_push (0) (hi_X2_becomeLike_150 hT) rfl ?_
  refine v_load (v := (2, 24)) (hi_X2_becomeLike_151 hT) rfl rfl ?_
  refine v_getR (c := 32) (r := 24) (hi_X2_becomeLike_152 hT) rfl rfl rfl ?_
  refine v_push (0) (hi_X2_becomeLike_155 hT) rfl ?_
  refine v_push (6) (hi_X2_becomeLike_156 hT) rfl ?_
  refine v_copy (r0 := 63) (r1 := 32) (hi_X2_becomeLike_158 hT) rfl rfl rfl rfl (fun hd45 hd46 hd47 hd48 hd49 => ?_)
  refine v_load (v := (2, 55)) (hi_X2_becomeLike_161 hT) rfl rfl ?_
  refine v_getR (c := 64) (r := 55) (hi_X2_becomeLike_162 hT) rfl rfl rfl ?_
  refine v_push (0) (hi_X2_becomeLike_165 hT) rfl ?_
  refine v_load (v := (2, 24)) (hi_X2_becomeLike_166 hT) rfl rfl ?_
  refine v_getR (c := 33) (r := 24) (hi_X2_becomeLike_167 hT) rfl rfl rfl ?_
  refine v_push (0) (hi_X2_becomeLike_170 hT) rfl ?_
  refine v_push (6) (hi_X2_becomeLike_171 hT) rfl ?_
  refine v_copy (r0 := 64) (r1 := 33) (hi_X2_becomeLike_173 hT) rfl rfl rfl rfl (fun hd50 hd51 hd52 hd53 hd54 => ?_)
  refine v_load (v := (2, 24)) (hi_X2_becomeLike_176 hT) rfl rfl ?_
  refine v_getR (c := 34) (r := 24) (hi_X2_becomeLike_177 hT) rfl rfl rfl ?_
  refine v_load (v := (2, 55)) (hi_X2_becomeLike_180 hT) rfl rfl ?_
  refine v_getR (c := 65) (r := 55) (hi_X2_becomeLike_181 hT) rfl rfl rfl ?_
  refine v_call (w := 2) [some (2, 34), some (2, 65)] hO (hi_X2_becomeLike_184 hT) rfl rfl ?_
  refine v_load (v := (2, 34)) (hi_X5_becomeLike_0 hT) rfl rfl ?_
  refine v_load (v := (2, 65)) (hi_X5_becomeLike_1 hT) rfl rfl ?_
  refine v_getf (v := (0, (h 65 0).2)) (r := 65) (hi_X5_becomeLike_2 hT) rfl rfl (fun hv_ => Eq.trans (Eq.trans (vcopy_ne (fun c => absurd c.1 (by decide))) (Eq.trans (vcopy_ne (fun c => absurd c.1 (by decide))) (Eq.trans (vcopy_ne (fun c => absurd c.1 (by decide))) (Eq.trans (vcopy_ne (fun c => absurd c.1 (by decide))) (Eq.trans (vcopy_ne (fun c => absurd c.1 (by decide))) (Eq.trans (vcopy_ne (fun c => absurd c.1 (by decide))) (Eq.trans (vcopy_ne (fun c => absurd c.1 (by decide))) (Eq.trans (vcopy_ne (fun c => absurd c.1 (by decide))) (Eq.trans (vcopy_ne (fun c => absurd c.1 (by decide))) (Eq.trans (zset_ne (fun c => absurd c.1 (by decide))) (Eq.trans (zset_ne (fun c => absurd c.1 (by decide))) (Eq.trans (zset_ne (fun c => absurd c.1 (by decide))) (Eq.trans (zset_ne (fun c => absurd c.1 (by decide))) (Eq.trans (zset_ne (fun c => absurd c.1 (by decide))) (zset_ne (fun c => absurd c.1 (by decide))))))))))))))))) (hv0.at rfl)) ?_
  refine v_putf (r := 34) hO (hi_X5_becomeLike_5 hT) rfl (fun hf55 => ?_)
  refine v_load (v := (2, 34)) (hi_X5_becomeLike_8 hT) rfl rfl ?_
  refine v_load (v := (2, 65)) (hi_X5_becomeLike_9 hT) rfl rfl ?_
  refine v_getf (v := (0, (h 65 1).2)) (r := 65) (hi_X5_becomeLike_10 hT) rfl rfl (fun hv_ => Eq.trans (Eq.trans (zset_ne (fun c => absurd c.1 (by decide))) (Eq.trans (vcopy_ne (fun c => absurd c.1 (by decide))) (Eq.trans (vcopy_ne (fun c => absurd c.1 (by decide))) (Eq.trans (vcopy_ne (fun c => absurd c.1 (by decide))) (Eq.trans (vcopy_ne (fun c => absurd c.1 (by decide))) (Eq.trans (vcopy_ne (fun c => absurd c.1 (by decide))) (Eq.trans (vcopy_ne (fun c => absurd c.1 (by decide))) (Eq.trans (vcopy_ne (fun c => absurd c.1 (by decide))) (Eq.trans (vcopy_ne (fun c => absurd c.1 (by decide))) (Eq.trans (vcopy_ne (fun c => absurd c.1 (by decide))) (Eq.trans (zset_ne (fun c => absurd c.1 (by decide))) (Eq.trans (zset_ne (fun c => absurd c.1 (by decide))) (Eq.trans (zset_ne (fun c => absurd c.1 (by decide))) (Eq.trans (zset_ne (fun c => absurd c.1 (by decide))) (Eq.trans (zset_ne (fun c => absurd c.1 (by decide))) (zset_ne (fun c => absurd c.1 (by decide)))))))))))))))))) (hv0.at rfl)) ?_
  refine v_putf (r := 34) hO (hi_X5_becomeLike_13 hT) rfl (fun hf56 => ?_)
  refine v_load (v := (2, 65)) (hi_X5_becomeLike_16 hT) rfl rfl ?_
  refine v_getR (c := 66) (r := 65) (hi_X5_becomeLike_17 hT) rfl rfl rfl ?_
  refine v_push (0) (hi_X5_becomeLike_20 hT) rfl ?_
  refine v_load (v := (2, 34)) (hi_X5_becomeLike_21 hT) rfl rfl ?_
  refine v_getR (c := 35) (r := 34) (hi_X5_becomeLike_22 hT) rfl rfl rfl ?_
  refine v_push (0) (hi_X5_becomeLike_25 hT) rfl ?_
  refine v_push (60) (hi_X5_becomeLike_26 hT) rfl ?_
  refine v_copy (r0 := 66) (r1 := 35) (hi_X5_becomeLike_28 hT) rfl rfl rfl rfl (fun hd57 hd58 hd59 hd60 hd61 => ?_)
  refine v_load (v := (2, 65)) (hi_X5_becomeLike_31 hT) rfl rfl ?_
  refine v_getR (c := 67) (r := 65) (hi_X5_becomeLike_32 hT) rfl rfl rfl ?_
  refine v_push (0) (hi_X5_becomeLike_35 hT) rfl ?_
  refine v_load (v := (2, 34)) (hi_X5_becomeLike_36 hT) rfl rfl ?_
  refine v_getR (c := 36) (r := 34) (hi_X5_becomeLike_37 hT) rfl rfl rfl ?_
  refine v_push (0) (hi_X5_becomeLike_40 hT) rfl ?_
  refine v_push (60) (hi_X5_becomeLike_41 hT) rfl ?_
  refine v_copy (r0 := 67) (r1 := 36) (hi_X5_becomeLike_43 hT) rfl rfl rfl rfl (fun hd62 hd63 hd64 hd65 hd66 => ?_)
  refine v_load (v := (2, 65)) (hi_X5_becomeLike_46 hT) rfl rfl ?_
  refine v_getR (c := 68) (r := 65) (hi_X5_becomeLike_47 hT) rfl rfl rfl ?_
  refine v_push (0) (hi_X5_becomeLike_50 hT) rfl ?_
  refine v_load (v := (2, 34)) (hi_X5_becomeLike_51 hT) rfl rfl ?_
  refine v_getR (c := 37) (r := 34) (hi_X5_becomeLike_52 hT) rfl rfl rfl ?_
  refine v_push (0) (hi_X5_becomeLike_55 hT) rfl ?_
  refine v_push (60) (hi_X5_becomeLike_56 hT) rfl ?_
  refine v_copy (r0 := 68) (r1 := 37) (hi_X5_becomeLike_58 hT) rfl rfl rfl rfl (fun hd67 hd68 hd69 hd70 hd71 => ?_)
  refine v_load (v := (2, 65)) (hi_X5_becomeLike_61 hT) rfl rfl ?_
  refine v_getR (c := 69) (r := 65) (hi_X5_becomeLike_62 hT) rfl rfl rfl ?_
  refine v_push (0) (hi_X5_becomeLike_65 hT) rfl ?_
  refine v_load (v := (2, 34)) (hi_X5_becomeLike_66 hT) rfl rfl ?_
  refine v_getR (c := 38) (r := 34) (hi_X5_becomeLike_67 hT) rfl rfl rfl ?_
  refine v_push (0) (hi_X5_becomeLike_70 hT) rfl ?_
  refine v_push (60) (hi_X5_becomeLike_71 hT) rfl ?_
  refine v_copy (r0 := 69) (r1 := 38) (hi_X5_becomeLike_73 hT) rfl rfl rfl rfl (fun hd72 hd73 hd74 hd75 hd76 => ?_)
  refine v_ret0 (hi_X5_becomeLike_76 hT) ?_
  show vP D T N 25 187 (zcopy (zcopy (zcopy (zcopy (zset (zset (zcopy (zcopy (zcopy (zcopy (zcopy (zcopy (zcopy (zcopy (zcopy (zset (zset (zset (zset (zset (zset h 0 10 (0, 0)) 24 0 (0, (h 55 0).2)) 24 1 (0, (h 55 1).2)) 24 2 (0, (h 55 2).2)) 24 3 (0, (h 55 3).2)) 24 4 (0, (h 55 4).2)) 56 0 25 0 48) 57 0 26 0 48) 58 0 27 0 144) 59 0 28 0 6) 60 0 29 0 6) 61 0 30 0 6) 62 0 31 0 6) 63 0 32 0 6) 64 0 33 0 6) 34 0 (0, (h 65 0).2)) 34 1 (0, (h 65 1).2)) 66 0 35 0 60) 67 0 36 0 60) 68 0 37 0 60) 69 0 38 0 60) [some (2, 24), some (2, 55)] [] _
  refine v_ret0 (hi_X2_becomeLike_187 hT) ?_
  show vP D T N 144 40 (zcopy (zcopy (zcopy (zcopy (zset (zset (zcopy (zcopy (zcopy (zcopy (zcopy (zcopy (zcopy (zcopy (zcopy (zset (zset (zset (zset (zset (zset h 0 10 (0, 0)) 24 0 (0, (h 55 0).2)) 24 1 (0, (h 55 1).2)) 24 2 (0, (h 55 2).2)) 24 3 (0, (h 55 3).2)) 24 4 (0, (h 55 4).2)) 56 0 25 0 48) 57 0 26 0 48) 58 0 27 0 144) 59 0 28 0 6) 60 0 29 0 6) 61 0 30 0 6) 62 0 31 0 6) 63 0 32 0 6) 64 0 33 0 6) 34 0 (0, (h 65 0).2)) 34 1 (0, (h 65 1).2)) 66 0 35 0 60) 67 0 36 0 60) 68 0 37 0 60) 69 0 38 0 60) [some (2, 0)] [] _
  refine v_load (v := (2, 0)) (hi_X11_back_40 hT) rfl rfl ?_
  refine v_load (v := (2, 0)) (hi_X11_back_41 hT) rfl rfl ?_
  refine v_getf (v := (0, 0)) (r := 0) (hi_X11_back_42 hT) rfl rfl (fun _ => Eq.trans (Eq.trans (vcopy_ne (fun c => absurd c.1 (by decide))) (Eq.trans (vcopy_ne (fun c => absurd c.1 (by decide))) (Eq.trans (vcopy_ne (fun c => absurd c.1 (by decide))) (Eq.trans (vcopy_ne (fun c => absurd c.1 (by decide))) (Eq.trans (zset_ne (fun c => absurd c.1 (by decide))) (Eq.trans (zset_ne (fun c => absurd c.1 (by decide))) (Eq.trans (vcopy_ne (fun c => absurd c.1 (by decide))) (Eq.trans (vcopy_ne (fun c => absurd c.1 (by decide))) (Eq.trans (vcopy_ne (fun c => absurd c.1 (by decide))) (Eq.trans (vcopy_ne (fun c => absurd c.1 (by decide))) (Eq.trans (vcopy_ne (fun c => absurd c.1 (by decide))) (Eq.trans (vcopy_ne (fun c => absurd c.1 (by decide))) (Eq.trans (vcopy_ne (fun c => absurd c.1 (by decide))) (Eq.trans (vcopy_ne (fun c => absurd c.1 (by decide))) (Eq.trans (vcopy_ne (fun c => absurd c.1 (by decide))) (Eq.trans (zset_ne (fun c => absurd c.1 (by decide))) (Eq.trans (zset_ne (fun c => absurd c.1 (by decide))) (Eq.trans (zset_ne (fun c => absurd c.1 (by decide))) (Eq.trans (zset_ne (fun c => absurd c.1 (by decide))) (zset_ne (fun c => absurd c.1 (by decide)))))))))))))))))))))) zset_same) ?_
  refine v_call (w := 2) [some (2, 0), some (0, 0)] hO (hi_X11_back_45 hT) rfl rfl ?_
  refine v_load (v := (2, 0)) (hi_X11_answer_0 hT) rfl rfl ?_
  refine v_push (0) (hi_X11_answer_1 hT) rfl ?_
  refine v_putf (r := 0) hO (hi_X11_answer_2 hT) rfl (fun hf77 => ?_)
  refine v_load (v := (0, 0)) (hi_X11_answer_5 hT) rfl rfl ?_
  refine v_ret (hi_X11_answer_6 hT) (Or.inl rfl) ?_
  show vP D T N 144 48 (zset (zcopy (zcopy (zcopy (zcopy (zset (zset (zcopy (zcopy (zcopy (zcopy (zcopy (zcopy (zcopy (zcopy (zcopy (zset (zset (zset (zset (zset (zset h 0 10 (0, 0)) 24 0 (0, (h 55 0).2)) 24 1 (0, (h 55 1).2)) 24 2 (0, (h 55 2).2)) 24 3 (0, (h 55 3).2)) 24 4 (0, (h 55 4).2)) 56 0 25 0 48) 57 0 26 0 48) 58 0 27 0 144) 59 0 28 0 6) 60 0 29 0 6) 61 0 30 0 6) 62 0 31 0 6) 63 0 32 0 6) 64 0 33 0 6) 34 0 (0, (h 65 0).2)) 34 1 (0, (h 65 1).2)) 66 0 35 0 60) 67 0 36 0 60) 68 0 37 0 60) 69 0 38 0 60) 0 0 (0, 0)) [some (2, 0)] [(0, 0)] _
  refine v_ret (hi_X11_back_48 hT) (Or.inl rfl) ?_
  exact k0 
theorem qc_mark_24_1 {D : zD} {T : zT} (hT : hTab T) (hO : vOK T) {N : Nat} {h : zH} {Q : zR → Prop}  (hv0 : zHv h) (e7 : h 0 7 = (2, 24)) (em : h 0 10 = (0, 1))
    (k0 : Q (zset (zset (zcopy (zcopy (zcopy (zcopy (zset (zset (zcopy (zcopy (zcopy (zcopy (zcopy (zcopy (zcopy (zcopy (zcopy (zset (zset (zset (zset (zset h 70 0 (0, (h 24 0).2)) 70 1 (0, (h 24 1).2)) 70 2 (0, (h 24 2).2)) 70 3 (0, (h 24 3).2)) 70 4 (0, (h 24 4).2)) 25 0 71 0 48) 26 0 72 0 48) 27 0 73 0 144) 28 0 74 0 6) 29 0 75 0 6) 30 0 76 0 6) 31 0 77 0 6) 32 0 78 0 6) 33 0 79 0 6) 80 0 (0, (h 34 0).2)) 80 1 (0, (h 34 1).2)) 35 0 81 0 60) 36 0 82 0 60) 37 0 83 0 60) 38 0 84 0 60) 0 10 (0, 2)) 0 0 (0, 0), some (0, 2))) :
    vP D T N 165 0 h [some (2, 0)] [] Q := by
  refine v_load (v := (2, 0)) (hi_X11_mark_0 hT) rfl rfl ?_
  refine v_getf (v := (0, 1)) (r := 0) (hi_X11_mark_1 hT) rfl rfl (fun _ => em) ?_
  refine v_push (3) (hi_X11_mark_4 hT) rfl ?_
  refine v_ic (hi_X11_mark_5 hT) (fun _ => ?_) (fun hc1 => absurd (show (1 : Int) < 3 from (by decide)) hc1)
  refine v_load (v := (2, 0)) (hi_X11_mark_15 hT) rfl rfl ?_
  refine v_getR (c := 54) (r := 0) (hi_X11_mark_16 hT) rfl rfl rfl ?_
  refine v_load (v := (2, 0)) (hi_X11_mark_19 hT) rfl rfl ?_
  refine v_getf (v := (0, 1)) (r := 0) (hi_X11_mark_20 hT) rfl rfl (fun _ => em) ?_
  refine v_aldV (v := (2, 70)) (r := 54) (hi_X11_mark_23 hT) rfl rfl (fun hv _ _ => hv.ref rfl) (fun ha2 hb3 => ?_)
  refine v_load (v := (2, 0)) (hi_X11_mark_24 hT) rfl rfl ?_
  refine v_getf (v := (2, 24)) (r := 0) (hi_X11_mark_25 hT) rfl rfl (fun _ => e7) ?_
  refine v_call (w := 2) [some (2, 70), some (2, 24)] hO (hi_X11_mark_28 hT) rfl rfl ?_
  refine v_load (v := (2, 70)) (hi_X2_becomeLike_0 hT) rfl rfl ?_
  refine v_load (v := (2, 24)) (hi_X2_becomeLike_1 hT) rfl rfl ?_
  refine v_getI (t := 0) (r := 24) (hi_X2_becomeLike_2 hT) rfl rfl rfl ?_
  refine v_putf (r := 70) hO (hi_X2_becomeLike_5 hT) rfl (fun hf4 => ?_)
  refine v_load (v := (2, 70)) (hi_X2_becomeLike_8 hT) rfl rfl ?_
  refine v_load (v := (2, 24)) (hi_X2_becomeLike_9 hT) rfl rfl ?_
  refine v_getf (v := (0, (h 24 1).2)) (r := 24) (hi_X2_becomeLike_10 hT) rfl rfl (fun hv_ => Eq.trans (zset_ne (fun c => absurd c.1 (by decide))) (hv0.at rfl)) ?_
  refine v_putf (r := 70) hO (hi_X2_becomeLike_13 hT) rfl (fun hf5 => ?_)
  refine v_load (v := (2, 70)) (hi_X2_becomeLike_16 hT) rfl rfl ?_
  refine v_load (v := (2, 24)) (hi_X2_becomeLike_17 hT) rfl rfl ?_
  refine v_getf (v := (0, (h 24 2).2)) (r := 24) (hi_X2_becomeLike_18 hT) rfl rfl (fun hv_ => Eq.trans (Eq.trans (zset_ne (fun c => absurd c.1 (by decide))) (zset_ne (fun c => absurd c.1 (by decide)))) (hv0.at rfl)) ?_
  refine v_putf (r := 70) hO (hi_X2_becomeLike_21 hT) rfl (fun hf6 => ?_)
  refine v_load (v := (2, 70)) (hi_X2_becomeLike_24 hT) rfl rfl ?_
  refine v_load (v := (2, 24)) (hi_X2_becomeLike_25 hT) rfl rfl ?_
  refine v_getf (v := (0, (h 24 3).2)) (r := 24) (hi_X2_becomeLike_26 hT) rfl rfl (fun hv_ => Eq.trans (Eq.trans (zset_ne (fun c => absurd c.1 (by decide))) (Eq.trans (zset_ne (fun c => absurd c.1 (by decide))) (zset_ne (fun c => absurd c.1 (by decide))))) (hv0.at rfl)) ?_
  refine v_putf (r := 70) hO (hi_X2_becomeLike_29 hT) rfl (fun hf7 => ?_)
  refine v_load (v := (2, 70)) (hi_X2_becomeLike_32 hT) rfl rfl ?_
  refine v_load (v := (2, 24)) (hi_X2_becomeLike_33 hT) rfl rfl ?_
  refine v_getf (v := (0, (h 24 4).2)) (r := 24) (hi_X2_becomeLike_34 hT) rfl rfl (fun hv_ => Eq.trans (Eq.trans (zset_ne (fun c => absurd c.1 (by decide))) (Eq.trans (zset_ne (fun c => absurd c.1 (by decide))) (Eq.trans (zset_ne (fun c => absurd c.1 (by decide))) (zset_ne (fun c => absurd c.1 (by decide)))))) (hv0.at rfl)) ?_
  refine v_putf (r := 70) hO (hi_X2_becomeLike_37 hT) rfl (fun hf8 => ?_)
  refine v_load (v := (2, 24)) (hi_X2_becomeLike_40 hT) rfl rfl ?_
  refine v_getR (c := 25) (r := 24) (hi_X2_becomeLike_41 hT) rfl rfl rfl ?_
  refine v_push (0) (hi_X2_becomeLike_44 hT) rfl ?_
  refine v_load (v := (2, 70)) (hi_X2_becomeLike_45 hT) rfl rfl ?_
  refine v_getR (c := 71) (r := 70) (hi_X2_becomeLike_46 hT) rfl rfl rfl ?_
  refine v_push (0) (hi_X2_becomeLike_49 hT) rfl ?_
  refine v_push (48) (hi_X2_becomeLike_50 hT) rfl ?_
  refine v_copy (r0 := 25) (r1 := 71) (hi_X2_becomeLike_52 hT) rfl rfl rfl rfl (fun hd9 hd10 hd11 hd12 hd13 => ?_)
  refine v_load (v := (2, 24)) (hi_X2_becomeLike_55 hT) rfl rfl ?_
  refine v_getR (c := 26) (r := 24) (hi_X2_becomeLike_56 hT) rfl rfl rfl ?_
  refine v_push (0) (hi_X2_becomeLike_59 hT) rfl ?_
  refine v_load (v := (2, 70)) (hi_X2_becomeLike_60 hT) rfl rfl ?_
  refine v_getR (c := 72) (r := 70) (hi_X2_becomeLike_61 hT) rfl rfl rfl ?_
  refine v_push (0) (hi_X2_becomeLike_64 hT) rfl ?_
  refine v_push (48) (hi_X2_becomeLike_65 hT) rfl ?_
  refine v_copy (r0 := 26) (r1 := 72) (hi_X2_becomeLike_67 hT) rfl rfl rfl rfl (fun hd14 hd15 hd16 hd17 hd18 => ?_)
  refine v_load (v := (2, 24)) (hi_X2_becomeLike_70 hT) rfl rfl ?_
  refine v_getR (c := 27) (r := 24) (hi_X2_becomeLike_71 hT) rfl rfl rfl ?_
  refine v_push (0) (hi_X2_becomeLike_74 hT) rfl ?_
  refine v_load (v := (2, 70)) (hi_X2_becomeLike_75 hT) rfl rfl ?_
  refine v_getR (c := 73) (r := 70) (hi_X2_becomeLike_76 hT) rfl rfl rfl ?_
  refine v_push (0) (hi_X2_becomeLike_79 hT) rfl ?_
  refine v_push (144) (hi_X2_becomeLike_80 hT) rfl ?_
  refine v_copy (r0 := 27) (r1 := 73) (hi_X2_becomeLike_83 hT) rfl rfl rfl rfl (fun hd19 hd20 hd21 hd22 hd23 => ?_)
  refine v_load (v := (2, 24)) (hi_X2_becomeLike_86 hT) rfl rfl ?_
  refine v_getR (c := 28) (r := 24) (hi_X2_becomeLike_87 hT) rfl rfl rfl ?_
  refine v_push (0) (hi_X2_becomeLike_90 hT) rfl ?_
  refine v_load (v := (2, 70)) (hi_X2_becomeLike_91 hT) rfl rfl ?_
  refine v_getR (c := 74) (r := 70) (hi_X2_becomeLike_92 hT) rfl rfl rfl ?_
  refine v_push (0) (hi_X2_becomeLike_95 hT) rfl ?_
  refine v_push (6) (hi_X2_becomeLike_96 hT) rfl ?_
  refine v_copy (r0 := 28) (r1 := 74) (hi_X2_becomeLike_98 hT) rfl rfl rfl rfl (fun hd24 hd25 hd26 hd27 hd28 => ?_)
  refine v_load (v := (2, 24)) (hi_X2_becomeLike_101 hT) rfl rfl ?_
  refine v_getR (c := 29) (r := 24) (hi_X2_becomeLike_102 hT) rfl rfl rfl ?_
  refine v_push (0) (hi_X2_becomeLike_105 hT) rfl ?_
  refine v_load (v := (2, 70)) (hi_X2_becomeLike_106 hT) rfl rfl ?_
  refine v_getR (c := 75) (r := 70) (hi_X2_becomeLike_107 hT) rfl rfl rfl ?_
  refine v_push (0) (hi_X2_becomeLike_110 hT) rfl ?_
  refine v_push (6) (hi_X2_becomeLike_111 hT) rfl ?_
  refine v_copy (r0 := 29) (r1 := 75) (hi_X2_becomeLike_113 hT) rfl rfl rfl rfl (fun hd29 hd30 hd31 hd32 hd33 => ?_)
  refine v_load (v := (2, 24)) (hi_X2_becomeLike_116 hT) rfl rfl ?_
  refine v_getR (c := 30) (r := 24) (hi_X2_becomeLike_117 hT) rfl rfl rfl ?_
  refine v_push (0) (hi_X2_becomeLike_120 hT) rfl ?_
  refine v_load (v := (2, 70)) (hi_X2_becomeLike_121 hT) rfl rfl ?_
  refine v_getR (c := 76) (r := 70) (hi_X2_becomeLike_122 hT) rfl rfl rfl ?_
  refine v_push (0) (hi_X2_becomeLike_125 hT) rfl ?_
  refine v_push (6) (hi_X2_becomeLike_126 hT) rfl ?_
  refine v_copy (r0 := 30) (r1 := 76) (hi_X2_becomeLike_128 hT) rfl rfl rfl rfl (fun hd34 hd35 hd36 hd37 hd38 => ?_)
  refine v_load (v := (2, 24)) (hi_X2_becomeLike_131 hT) rfl rfl ?_
  refine v_getR (c := 31) (r := 24) (hi_X2_becomeLike_132 hT) rfl rfl rfl ?_
  refine v_push (0) (hi_X2_becomeLike_135 hT) rfl ?_
  refine v_load (v := (2, 70)) (hi_X2_becomeLike_136 hT) rfl rfl ?_
  refine v_getR (c := 77) (r := 70) (hi_X2_becomeLike_137 hT) rfl rfl rfl ?_
  refine v_push (0) (hi_X2_becomeLike_140 hT) rfl ?_
  refine v_push (6) (hi_X2_becomeLike_141 hT) rfl ?_
  refine v_copy (r0 := 31) (r1 := 77) (hi_X2_becomeLike_143 hT) rfl rfl rfl rfl (fun hd39 hd40 hd41 hd42 hd43 => ?_)
  refine v_load (v := (2, 24)) (hi_X2_becomeLike_146 hT) rfl rfl ?_
  refine v_getR (c := 32) (r := 24) (hi_X2_becomeLike_147 hT) rfl rfl rfl ?_
  refine v_push (0) (hi_X2_becomeLike_150 hT) rfl ?_
  refine v_load (v := (2, 70)) (hi_X2_becomeLike_151 hT) rfl rfl ?_
  refine v_getR (c := 78) (r := 70) (hi_X2_becomeLike_152 hT) rfl rfl rfl ?_
  refine v_push (0) (hi_X2_becomeLike_155 hT) rfl ?_
  refine v_push (6) (hi_X2_becomeLike_156 hT) rfl ?_
  refine v_copy (r0 := 32) (r1 := 78) (hi_X2_becomeLike_158 hT) rfl rfl rfl rfl (fun hd44 hd45 hd46 hd47 hd48 => ?_)
  refine v_load (v := (2, 24)) (hi_X2_becomeLike_161 hT) rfl rfl ?_
  refine v_getR (c := 33) (r := 24) (hi_X2_becomeLike_162 hT) rfl rfl rfl ?_
  refine v_push (0) (hi_X2_becomeLike_165 hT) rfl ?_
  refine v_load (v := (2, 70)) (hi_X2_becomeLike_166 hT) rfl rfl ?_
  refine v_getR (c := 79) (r := 70) (hi_X2_becomeLike_167 hT) rfl rfl rfl ?_
  refine v_push (0) (hi_X2_becomeLike_170 hT) rfl ?_
  refine v_push (6) (hi_X2_becomeLike_171 hT) rfl ?_
  refine v_copy (r0 := 33) (r1 := 79) (hi_X2_becomeLike_173 hT) rfl rfl rfl rfl (fun hd49 hd50 hd51 hd52 hd53 => ?_)
  refine v_load (v := (2, 70)) (hi_X2_becomeLike_176 hT) rfl rfl ?_
  refine v_getR (c := 80) (r := 70) (hi_X2_becomeLike_177 hT) rfl rfl rfl ?_
  refine v_load (v := (2, 24)) (hi_X2_becomeLike_180 hT) rfl rfl ?_
  refine v_getR (c := 34) (r := 24) (hi_X2_becomeLike_181 hT) rfl rfl rfl ?_
  refine v_call (w := 2) [some (2, 80), some (2, 34)] hO (hi_X2_becomeLike_184 hT) rfl rfl ?_
  refine v_load (v := (2, 80)) (hi_X5_becomeLike_0 hT) rfl rfl ?_
  refine v_load (v := (2, 34)) (hi_X5_becomeLike_1 hT) rfl rfl ?_
  refine v_getf (v := (0, (h 34 0).2)) (r := 34) (hi_X5_becomeLike_2 hT) rfl rfl (fun hv_ => Eq.trans (Eq.trans (vcopy_ne (fun c => absurd c.1 (by decide))) (Eq.trans (vcopy_ne (fun c => absurd c.1 (by decide))) (Eq.trans (vcopy_ne (fun c => absurd c.1 (by decide))) (Eq.trans (vcopy_ne (fun c => absurd c.1 (by decide))) (Eq.trans (vcopy_ne (fun c => absurd c.1 (by decide))) (Eq.trans (vcopy_ne (fun c => absurd c.1 (by decide))) (Eq.trans (vcopy_ne (fun c => absurd c.1 (by decide))) (Eq.trans (vcopy_ne (fun c => absurd c.1 (by decide))) (Eq.trans (vcopy_ne (fun c => absurd c.1 (by decide))) (Eq.trans (zset_ne (fun c => absurd c.1 (by decide))) (Eq.trans (zset_ne (fun c => absurd c.1 (by decide))) (Eq.trans (zset_ne (fun c => absurd c.1 (by decide))) (Eq.trans (zset_ne (fun c => absurd c.1 (by decide))) (zset_ne (fun c => absurd c.1 (by decide)))))))))))))))) (hv0.at rfl)) ?_
  refine v_putf (r := 80) hO (hi_X5_becomeLike_5 hT) rfl (fun hf54 => ?_)
  refine v_load (v := (2, 80)) (hi_X5_becomeLike_8 hT) rfl rfl ?_
  refine v_load (v := (2, 34)) (hi_X5_becomeLike_9 hT) rfl rfl ?_
  refine v_getf (v := (0, (h 34 1).2)) (r := 34) (hi_X5_becomeLike_10 hT) rfl rfl (fun hv_ => Eq.trans (Eq.trans (zset_ne (fun c => absurd c.1 (by decide))) (Eq.trans (vcopy_ne (fun c => absurd c.1 (by decide))) (Eq.trans (vcopy_ne (fun c => absurd c.1 (by decide))) (Eq.trans (vcopy_ne (fun c => absurd c.1 (by decide))) (Eq.trans (vcopy_ne (fun c => absurd c.1 (by decide))) (Eq.trans (vcopy_ne (fun c => absurd c.1 (by decide))) (Eq.trans (vcopy_ne (fun c => absurd c.1 (by decide))) (Eq.trans (vcopy_ne (fun c => absurd c.1 (by decide))) (Eq.trans (vcopy_ne (fun c => absurd c.1 (by decide))) (Eq.trans (vcopy_ne (fun c => absurd c.1 (by decide))) (Eq.trans (zset_ne (fun c => absurd c.1 (by decide))) (Eq.trans (zset_ne (fun c => absurd c.1 (by decide))) (Eq.trans (zset_ne (fun c => absurd c.1 (by decide))) (Eq.trans (zset_ne (fun c => absurd c.1 (by decide))) (zset_ne (fun c => absurd c.1 (by decide))))))))))))))))) (hv0.at rfl)) ?_
  refine v_putf (r := 80) hO (hi_X5_becomeLike_13 hT) rfl (fun hf55 => ?_)
  refine v_load (v := (2, 34)) (hi_X5_becomeLike_16 hT) rfl rfl ?_
  refine v_getR (c := 35) (r := 34) (hi_X5_becomeLike_17 hT) rfl rfl rfl ?_
  refine v_push (0) (hi_X5_becomeLike_20 hT) rfl ?_
  refine v_load (v := (2, 80)) (hi_X5_becomeLike_21 hT) rfl rfl ?_
  refine v_getR (c := 81) (r := 80) (hi_X5_becomeLike_22 hT) rfl rfl rfl ?_
  refine v_push (0) (hi_X5_becomeLike_25 hT) rfl ?_
  refine v_push (60) (hi_X5_becomeLike_26 hT) rfl ?_
  refine v_copy (r0 := 35) (r1 := 81) (hi_X5_becomeLike_28 hT) rfl rfl rfl rfl (fun hd56 hd57 hd58 hd59 hd60 => ?_)
  refine v_load (v := (2, 34)) (hi_X5_becomeLike_31 hT) rfl rfl ?_
  refine v_getR (c := 36) (r := 34) (hi_X5_becomeLike_32 hT) rfl rfl rfl ?_
  refine v_push (0) (hi_X5_becomeLike_35 hT) rfl ?_
  refine v_load (v := (2, 80)) (hi_X5_becomeLike_36 hT) rfl rfl ?_
  refine v_getR (c := 82) (r := 80) (hi_X5_becomeLike_37 hT) rfl rfl rfl ?_
  refine v_push (0) (hi_X5_becomeLike_40 hT) rfl ?_
  refine v_push (60) (hi_X5_becomeLike_41 hT) rfl ?_
  refine v_copy (r0 := 36) (r1 := 82) (hi_X5_becomeLike_43 hT) rfl rfl rfl rfl (fun hd61 hd62 hd63 hd64 hd65 => ?_)
  refine v_load (v := (2, 34)) (hi_X5_becomeLike_46 hT) rfl rfl ?_
  refine v_getR (c := 37) (r := 34) (hi_X5_becomeLike_47 hT) rfl rfl rfl ?_
  refine v_push (0) (hi_X5_becomeLike_50 hT) rfl ?_
  refine v_load (v := (2, 80)) (hi_X5_becomeLike_51 hT) rfl rfl ?_
  refine v_getR (c := 83) (r := 80) (hi_X5_becomeLike_52 hT) rfl rfl rfl ?_
  refine v_push (0) (hi_X5_becomeLike_55 hT) rfl ?_
  refine v_push (60) (hi_X5_becomeLike_56 hT) rfl ?_
  refine v_copy (r0 := 37) (r1 := 83) (hi_X5_becomeLike_58 hT) rfl rfl rfl rfl (fun hd66 hd67 hd68 hd69 hd70 => ?_)
  refine v_load (v := (2, 34)) (hi_X5_becomeLike_61 hT) rfl rfl ?_
  refine v_getR (c := 38) (r := 34) (hi_X5_becomeLike_62 hT) rfl rfl rfl ?_
  refine v_push (0) (hi_X5_becomeLike_65 hT) rfl ?_
  refine v_load (v := (2, 80)) (hi_X5_becomeLike_66 hT) rfl rfl ?_
  refine v_getR (c := 84) (r := 80) (hi_X5_becomeLike_67 hT) rfl rfl rfl ?_
  refine v_push (0) (hi_X5_becomeLike_70 hT) rfl ?_
  refine v_push (60) (hi_X5_becomeLike_71 hT) rfl ?_
  refine v_copy (r0 := 38) (r1 := 84) (hi_X5_becomeLike_73 hT) rfl rfl rfl rfl (fun hd71 hd72 hd73 hd74 hd75 => ?_)
  refine v_ret0 (hi_X5_becomeLike_76 hT) ?_
  show vP D T N 25 187 (zcopy (zcopy (zcopy (zcopy (zset (zset (zcopy (zcopy (zcopy (zcopy (zcopy (zcopy (zcopy (zcopy (zcopy (zset (zset (zset (zset (zset h 70 0 (0, (h 24 0).2)) 70 1 (0, (h 24 1).2)) 70 2 (0, (h 24 2).2)) 70 3 (0, (h 24 3).2)) 70 4 (0, (h 24 4).2)) 25 0 71 0 48) 26 0 72 0 48) 27 0 73 0 144) 28 0 74 0 6) 29 0 75 0 6) 30 0 76 0 6) 31 0 77 0 6) 32 0 78 0 6) 33 0 79 0 6) 80 0 (0, (h 34 0).2)) 80 1 (0, (h 34 1).2)) 35 0 81 0 60) 36 0 82 0 60) 37 0 83 0 60) 38 0 84 0 60) [some (2, 70), some (2, 24)] [] _
  refine v_ret0 (hi_X2_becomeLike_187 hT) ?_
  show vP D T N 165 31 (zcopy (zcopy (zcopy (zcopy (zset (zset (zcopy (zcopy (zcopy (zcopy (zcopy (zcopy (zcopy (zcopy (zcopy (zset (zset (zset (zset (zset h 70 0 (0, (h 24 0).2)) 70 1 (0, (h 24 1).2)) 70 2 (0, (h 24 2).2)) 70 3 (0, (h 24 3).2)) 70 4 (0, (h 24 4).2)) 25 0 71 0 48) 26 0 72 0 48) 27 0 73 0 144) 28 0 74 0 6) 29 0 75 0 6) 30 0 76 0 6) 31 0 77 0 6) 32 0 78 0 6) 33 0 79 0 6) 80 0 (0, (h 34 0).2)) 80 1 (0, (h 34 1).2)) 35 0 81 0 60) 36 0 82 0 60) 37 0 83 0 60) 38 0 84 0 60) [some (2, 0)] [] _
  refine v_load (v := (2, 0)) (hi_X11_mark_31 hT) rfl rfl ?_
  refine v_dup (hi_X11_mark_32 hT) (Nat.ne_of_beq_eq_false rfl) ?_
  refine v_getf (v := (0, 1)) (r := 0) (hi_X11_mark_33 hT) rfl rfl (fun _ => Eq.trans (Eq.trans (vcopy_ne (fun c => absurd c.1 (by decide))) (Eq.trans (vcopy_ne (fun c => absurd c.1 (by decide))) (Eq.trans (vcopy_ne (fun c => absurd c.1 (by decide))) (Eq.trans (vcopy_ne (fun c => absurd c.1 (by decide))) (Eq.trans (zset_ne (fun c => absurd c.1 (by decide))) (Eq.trans (zset_ne (fun c => absurd c.1 (by decide))) (Eq.trans (vcopy_ne (fun c => absurd c.1 (by decide))) (Eq.trans (vcopy_ne (fun c => absurd c.1 (by decide))) (Eq.trans (vcopy_ne (fun c => absurd c.1 (by decide))) (Eq.trans (vcopy_ne (fun c => absurd c.1 (by decide))) (Eq.trans (vcopy_ne (fun c => absurd c.1 (by decide))) (Eq.trans (vcopy_ne (fun c => absurd c.1 (by decide))) (Eq.trans (vcopy_ne (fun c => absurd c.1 (by decide))) (Eq.trans (vcopy_ne (fun c => absurd c.1 (by decide))) (Eq.trans (vcopy_ne (fun c => absurd c.1 (by decide))) (Eq.trans (zset_ne (fun c => absurd c.1 (by decide))) (Eq.trans (zset_ne (fun c => absurd c.1 (by decide))) (Eq.trans (zset_ne (fun c => absurd c.1 (by decide))) (Eq.trans (zset_ne (fun c => absurd c.1 (by decide))) (zset_ne (fun c => absurd c.1 (by decide)))))))))))))))))))))) (em)) ?_
  refine v_push (1) (hi_X11_mark_36 hT) rfl ?_
  refine v_bin (w := 2) (hi_X11_mark_37 hT) (by decide) ?_
  refine v_putf (r := 0) hO (hi_X11_mark_38 hT) rfl (fun hf76 => ?_)
  refine v_load (v := (2, 0)) (hi_X11_mark_41 hT) rfl rfl ?_
  refine v_load (v := (2, 0)) (hi_X11_mark_42 hT) rfl rfl ?_
  refine v_getf (v := (0, 2)) (r := 0) (hi_X11_mark_43 hT) rfl rfl (fun _ => zset_same) ?_
  refine v_call (w := 2) [some (2, 0), some (0, 2)] hO (hi_X11_mark_46 hT) rfl rfl ?_
  refine v_load (v := (2, 0)) (hi_X11_answer_0 hT) rfl rfl ?_
  refine v_push (0) (hi_X11_answer_1 hT) rfl ?_
  refine v_putf (r := 0) hO (hi_X11_answer_2 hT) rfl (fun hf77 => ?_)
  refine v_load (v := (0, 2)) (hi_X11_answer_5 hT) rfl rfl ?_
  refine v_ret (hi_X11_answer_6 hT) (Or.inl rfl) ?_
  show vP D T N 165 49 (zset (zset (zcopy (zcopy (zcopy (zcopy (zset (zset (zcopy (zcopy (zcopy (zcopy (zcopy (zcopy (zcopy (zcopy (zcopy (zset (zset (zset (zset (zset h 70 0 (0, (h 24 0).2)) 70 1 (0, (h 24 1).2)) 70 2 (0, (h 24 2).2)) 70 3 (0, (h 24 3).2)) 70 4 (0, (h 24 4).2)) 25 0 71 0 48) 26 0 72 0 48) 27 0 73 0 144) 28 0 74 0 6) 29 0 75 0 6) 30 0 76 0 6) 31 0 77 0 6) 32 0 78 0 6) 33 0 79 0 6) 80 0 (0, (h 34 0).2)) 80 1 (0, (h 34 1).2)) 35 0 81 0 60) 36 0 82 0 60) 37 0 83 0 60) 38 0 84 0 60) 0 10 (0, 2)) 0 0 (0, 0)) [some (2, 0)] [(0, 2)] _
  refine v_ret (hi_X11_mark_49 hT) (Or.inl rfl) ?_
  exact k0 
theorem qc_back_24_1 {D : zD} {T : zT} (hT : hTab T) (hO : vOK T) {N : Nat} {h : zH} {Q : zR → Prop}  (hv0 : zHv h) (e7 : h 0 7 = (2, 24)) (em : h 0 10 = (0, 2))
    (k0 : Q (zset (zcopy (zcopy (zcopy (zcopy (zset (zset (zcopy (zcopy (zcopy (zcopy (zcopy (zcopy (zcopy (zcopy (zcopy (zset (zset (zset (zset (zset (zset h 0 10 (0, 1)) 24 0 (0, (h 70 0).2)) 24 1 (0, (h 70 1).2)) 24 2 (0, (h 70 2).2)) 24 3 (0, (h 70 3).2)) 24 4 (0, (h 70 4).2)) 71 0 25 0 48) 72 0 26 0 48) 73 0 27 0 144) 74 0 28 0 6) 75 0 29 0 6) 76 0 30 0 6) 77 0 31 0 6) 78 0 32 0 6) 79 0 33 0 6) 34 0 (0, (h 80 0).2)) 34 1 (0, (h 80 1).2)) 81 0 35 0 60) 82 0 36 0 60) 83 0 37 0 60) 84 0 38 0 60) 0 0 (0, 0), some (0, 1))) :
    vP D T N 144 0 h [some (2, 0)] [] Q := by
  refine v_load (v := (2, 0)) (hi_X11_back_0 hT) rfl rfl ?_
  refine v_getf (v := (0, 2)) (r := 0) (hi_X11_back_1 hT) rfl rfl (fun _ => em) ?_
  refine v_if (hi_X11_back_4 hT) (fun _ => ?_) (fun hc1 => absurd (show 0 < (2 : Int) from (by decide)) hc1)
  refine v_load (v := (2, 0)) (hi_X11_back_14 hT) rfl rfl ?_
  refine v_dup (hi_X11_back_15 hT) (Nat.ne_of_beq_eq_false rfl) ?_
  refine v_getf (v := (0, 2)) (r := 0) (hi_X11_back_16 hT) rfl rfl (fun _ => em) ?_
  refine v_push (1) (hi_X11_back_19 hT) rfl ?_
  refine v_bin (w := 1) (hi_X11_back_20 hT) (by decide) ?_
  refine v_putf (r := 0) hO (hi_X11_back_21 hT) rfl (fun hf2 => ?_)
  refine v_load (v := (2, 0)) (hi_X11_back_24 hT) rfl rfl ?_
  refine v_getf (v := (2, 24)) (r := 0) (hi_X11_back_25 hT) rfl rfl (fun _ => Eq.trans (zset_ne (fun c => absurd c.2 (by decide))) (e7)) ?_
  refine v_load (v := (2, 0)) (hi_X11_back_28 hT) rfl rfl ?_
  refine v_getR (c := 54) (r := 0) (hi_X11_back_29 hT) rfl rfl rfl ?_
  refine v_load (v := (2, 0)) (hi_X11_back_32 hT) rfl rfl ?_
  refine v_getf (v := (0, 1)) (r := 0) (hi_X11_back_33 hT) rfl rfl (fun _ => zset_same) ?_
  refine v_aldV (v := (2, 70)) (r := 54) (hi_X11_back_36 hT) rfl rfl (fun hv _ _ => hv.ref rfl) (fun ha3 hb4 => ?_)
  refine v_call (w := 2) [some (2, 24), some (2, 70)] hO (hi_X11_back_37 hT) rfl rfl ?_
  refine v_load (v := (2, 24)) (hi_X2_becomeLike_0 hT) rfl rfl ?_
  refine v_load (v := (2, 70)) (hi_X2_becomeLike_1 hT) rfl rfl ?_
  refine v_getf (v := (0, (h 70 0).2)) (r := 70) (hi_X2_becomeLike_2 hT) rfl rfl (fun hv_ => Eq.trans (zset_ne (fun c => absurd c.1 (by decide))) (hv0.at rfl)) ?_
  refine v_putf (r := 24) hO (hi_X2_becomeLike_5 hT) rfl (fun hf5 => ?_)
  refine v_load (v := (2, 24)) (hi_X2_becomeLike_8 hT) rfl rfl ?_
  refine v_load (v := (2, 70)) (hi_X2_becomeLike_9 hT) rfl rfl ?_
  refine v_getf (v := (0, (h 70 1).2)) (r := 70) (hi_X2_becomeLike_10 hT) rfl rfl (fun hv_ => Eq.trans (Eq.trans (zset_ne (fun c => absurd c.1 (by decide))) (zset_ne (fun c => absurd c.1 (by decide)))) (hv0.at rfl)) ?_
  refine v_putf (r := 24) hO (hi_X2_becomeLike_13 hT) rfl (fun hf6 => ?_)
  refine v_load (v := (2, 24)) (hi_X2_becomeLike_16 hT) rfl rfl ?_
  refine v_load (v := (2, 70)) (hi_X2_becomeLike_17 hT) rfl rfl ?_
  refine v_getf (v := (0, (h 70 2).2)) (r := 70) (hi_X2_becomeLike_18 hT) rfl rfl (fun hv_ => Eq.trans (Eq.trans (zset_ne (fun c => absurd c.1 (by decide))) (Eq.trans (zset_ne (fun c => absurd c.1 (by decide))) (zset_ne (fun c => absurd c.1 (by decide))))) (hv0.at rfl)) ?_
  refine v_putf (r := 24) hO (hi_X2_becomeLike_21 hT) rfl (fun hf7 => ?_)
  refine v_load (v := (2, 24)) (hi_X2_becomeLike_24 hT) rfl rfl ?_
  refine v_load (v := (2, 70)) (hi_X2_becomeLike_25 hT) rfl rfl ?_
  refine v_getf (v := (0, (h 70 3).2)) (r := 70) (hi_X2_becomeLike_26 hT) rfl rfl (fun hv_ => Eq.trans (Eq.trans (zset_ne (fun c => absurd c.1 (by decide))) (Eq.trans (zset_ne (fun c => absurd c.1 (by decide))) (Eq.trans (zset_ne (fun c => absurd c.1 (by decide))) (zset_ne (fun c => absurd c.1 (by decide)))))) (hv0.at rfl)) ?_
  refine v_putf (r := 24) hO (hi_X2_becomeLike_29 hT) rfl (fun hf8 => ?_)
  refine v_load (v := (2, 24)) (hi_X2_becomeLike_32 hT) rfl rfl ?_
  refine v_load (v := (2, 70)) (hi_X2_becomeLike_33 hT) rfl rfl ?_
  refine v_getf (v := (0, (h 70 4).2)) (r := 70) (hi_X2_becomeLike_34 hT) rfl rfl (fun hv_ => Eq.trans (Eq.trans (zset_ne (fun c => absurd c.1 (by decide))) (Eq.trans (zset_ne (fun c => absurd c.1 (by decide))) (Eq.trans (zset_ne (fun c => absurd c.1 (by decide))) (Eq.trans (zset_ne (fun c => absurd c.1 (by decide))) (zset_ne (fun c => absurd c.1 (by decide))))))) (hv0.at rfl)) ?_
  refine v_putf (r := 24) hO (hi_X2_becomeLike_37 hT) rfl (fun hf9 => ?_)
  refine v_load (v := (2, 70)) (hi_X2_becomeLike_40 hT) rfl rfl ?_
  refine v_getR (c := 71) (r := 70) (hi_X2_becomeLike_41 hT) rfl rfl rfl ?_
  refine v_push (0) (hi_X2_becomeLike_44 hT) rfl ?_
  refine v_load (v := (2, 24)) (hi_X2_becomeLike_45 hT) rfl rfl ?_
  refine v_getR (c := 25) (r := 24) (hi_X2_becomeLike_46 hT) rfl rfl rfl ?_
  refine v_push (0) (hi_X2_becomeLike_49 hT) rfl ?_
  refine v_push (48) (hi_X2_becomeLike_50 hT) rfl ?_
  refine v_copy (r0 := 71) (r1 := 25) (hi_X2_becomeLike_52 hT) rfl rfl rfl rfl (fun hd10 hd11 hd12 hd13 hd14 => ?_)
  refine v_load (v := (2, 70)) (hi_X2_becomeLike_55 hT) rfl rfl ?_
  refine v_getR (c := 72) (r := 70) (hi_X2_becomeLike_56 hT) rfl rfl rfl ?_
  refine v_push (0) (hi_X2_becomeLike_59 hT) rfl ?_
  refine v_load (v := (2, 24)) (hi_X2_becomeLike_60 hT) rfl rfl ?_
  refine v_getR (c := 26) (r := 24) (hi_X2_becomeLike_61 hT) rfl rfl rfl ?_
  refine v_push (0) (hi_X2_becomeLike_64 hT) rfl ?_
  refine v_push (48) (hi_X2_becomeLike_65 hT) rfl ?_
  refine v_copy (r0 := 72) (r1 := 26) (hi_X2_becomeLike_67 hT) rfl rfl rfl rfl (fun hd15 hd16 hd17 hd18 hd19 => ?_)
  refine v_load (v := (2, 70)) (hi_X2_becomeLike_70 hT) rfl rfl ?_
  refine v_getR (c := 73) (r := 70) (hi_X2_becomeLike_71 hT) rfl rfl rfl ?_
  refine v_push (0) (hi_X2_becomeLike_74 hT) rfl ?_
  refine v_load (v := (2, 24)) (hi_X2_becomeLike_75 hT) rfl rfl ?_
  refine v_getR (c := 27) (r := 24) (hi_X2_becomeLike_76 hT) rfl rfl rfl ?_
  refine v_push (0) (hi_X2_becomeLike_79 hT) rfl ?_
  refine v_push (144) (hi_X2_becomeLike_80 hT) rfl ?_
  refine v_copy (r0 := 73) (r1 := 27) (hi_X2_becomeLike_83 hT) rfl rfl rfl rfl (fun hd20 hd21 hd22 hd23 hd24 => ?_)
  refine v_load (v := (2, 70)) (hi_X2_becomeLike_86 hT) rfl rfl ?_
  refine v_getR (c := 74) (r := 70) (hi_X2_becomeLike_87 hT) rfl rfl rfl ?_
  refine v_push (0) (hi_X2_becomeLike_90 hT) rfl ?_
  refine v_load (v := (2, 24)) (hi_X2_becomeLike_91 hT) rfl rfl ?_
  refine v_getR (c := 28) (r := 24) (hi_X2_becomeLike_92 hT) rfl rfl rfl ?_
  refine v_push (0) (hi_X2_becomeLike_95 hT) rfl ?_
  refine v_push (6) (hi_X2_becomeLike_96 hT) rfl ?_
  refine v_copy (r0 := 74) (r1 := 28) (hi_X2_becomeLike_98 hT) rfl rfl rfl rfl (fun hd25 hd26 hd27 hd28 hd29 => ?_)
  refine v_load (v := (2, 70)) (hi_X2_becomeLike_101 hT) rfl rfl ?_
  refine v_getR (c := 75) (r := 70) (hi_X2_becomeLike_102 hT) rfl rfl rfl ?_
  refine v_push (0) (hi_X2_becomeLike_105 hT) rfl ?_
  refine v_load (v := (2, 24)) (hi_X2_becomeLike_106 hT) rfl rfl ?_
  refine v_getR (c := 29) (r := 24) (hi_X2_becomeLike_107 hT) rfl rfl rfl ?_
  refine v_push (0) (hi_X2_becomeLike_110 hT) rfl ?_
  refine v_push (6) (hi_X2_becomeLike_111 hT) rfl ?_
  refine v_copy (r0 := 75) (r1 := 29) (hi_X2_becomeLike_113 hT) rfl rfl rfl rfl (fun hd30 hd31 hd32 hd33 hd34 => ?_)
  refine v_load (v := (2, 70)) (hi_X2_becomeLike_116 hT) rfl rfl ?_
  refine v_getR (c := 76) (r := 70) (hi_X2_becomeLike_117 hT) rfl rfl rfl ?_
  refine v_push (0) (hi_X2_becomeLike_120 hT) rfl ?_
  refine v_load (v := (2, 24)) (hi_X2_becomeLike_121 hT) rfl rfl ?_
  refine v_getR (c := 30) (r := 24) (hi_X2_becomeLike_122 hT) rfl rfl rfl ?_
  refine v_push (0) (hi_X2_becomeLike_125 hT) rfl ?_
  refine v_push (6) (hi_X2_becomeLike_126 hT) rfl ?_
  refine v_copy (r0 := 76) (r1 := 30) (hi_X2_becomeLike_128 hT) rfl rfl rfl rfl (fun hd35 hd36 hd37 hd38 hd39 => ?_)
  refine v_load (v := (2, 70)) (hi_X2_becomeLike_131 hT) rfl rfl ?_
  refine v_getR (c := 77) (r := 70) (hi_X2_becomeLike_132 hT) rfl rfl rfl ?_
  refine v_push (0) (hi_X2_becomeLike_135 hT) rfl ?_
  refine v_load (v := (2, 24)) (hi_X2_becomeLike_136 hT) rfl rfl ?_
  refine v_getR (c := 31) (r := 24) (hi_X2_becomeLike_137 hT) rfl rfl rfl ?_
  refine v_push (0) (hi_X2_becomeLike_140 hT) rfl ?_
  refine v_push (6) (hi_X2_becomeLike_141 hT) rfl ?_
  refine v_copy (r0 := 77) (r1 := 31) (hi_X2_becomeLike_143 hT) rfl rfl rfl rfl (fun hd40 hd41 hd42 hd43 hd44 => ?_)
  refine v_load (v := (2, 70)) (hi_X2_becomeLike_146 hT) rfl rfl ?_
  refine v_getR (c := 78) (r := 70) (hi_X2_becomeLike_147 hT) rfl rfl rfl ?_
  refine v_push (0) (hi_X2_becomeLike_150 hT) rfl ?_
  refine v_load (v := (2, 24)) (hi_X2_becomeLike_151 hT) rfl rfl ?_
  refine v_getR (c := 32) (r := 24) (hi_X2_becomeLike_152 hT) rfl rfl rfl ?_
  refine v_push (0) (hi_X2_becomeLike_155 hT) rfl ?_
  refine v_push (6) (hi_X2_becomeLike_156 hT) rfl ?_
  refine v_copy (r0 := 78) (r1 := 32) (hi_X2_becomeLike_158 hT) rfl rfl rfl rfl (fun hd45 hd46 hd47 hd48 hd49 => ?_)
  refine v_load (v := (2, 70)) (hi_X2_becomeLike_161 hT) rfl rfl ?_
  refine v_getR (c := 79) (r := 70) (hi_X2_becomeLike_162 hT) rfl rfl rfl ?_
  refine v_push (0) (hi_X2_becomeLike_165 hT) rfl ?_
  refine v_load (v := (2, 24)) (hi_X2_becomeLike_166 hT) rfl rfl ?_
  refine v_getR (c := 33) (r := 24) (hi_X2_becomeLike_167 hT) rfl rfl rfl ?_
  refine v_push (0) (hi_X2_becomeLike_170 hT) rfl ?_
  refine v_push (6) (hi_X2_becomeLike_171 hT) rfl ?_
  refine v_copy (r0 := 79) (r1 := 33) (hi_X2_becomeLike_173 hT) rfl rfl rfl rfl (fun hd50 hd51 hd52 hd53 hd54 => ?_)
  refine v_load (v := (2, 24)) (hi_X2_becomeLike_176 hT) rfl rfl ?_
  refine v_getR (c := 34) (r := 24) (hi_X2_becomeLike_177 hT) rfl rfl rfl ?_
  refine v_load (v := (2, 70)) (hi_X2_becomeLike_180 hT) rfl rfl ?_
  refine v_getR (c := 80) (r := 70) (hi_X2_becomeLike_181 hT) rfl rfl rfl ?_
  refine v_call (w := 2) [some (2, 34), some (2, 80)] hO (hi_X2_becomeLike_184 hT) rfl rfl ?_
  refine v_load (v := (2, 34)) (hi_X5_becomeLike_0 hT) rfl rfl ?_
  refine v_load (v := (2, 80)) (hi_X5_becomeLike_1 hT) rfl rfl ?_
  refine v_getf (v := (0, (h 80 0).2)) (r := 80) (hi_X5_becomeLike_2 hT) rfl rfl (fun hv_ => Eq.trans (Eq.trans (vcopy_ne (fun c => absurd c.1 (by decide))) (Eq.trans (vcopy_ne (fun c => absurd c.1 (by decide))) (Eq.trans (vcopy_ne (fun c => absurd c.1 (by decide))) (Eq.trans (vcopy_ne (fun c => absurd c.1 (by decide))) (Eq.trans (vcopy_ne (fun c => absurd c.1 (by decide))) (Eq.trans (vcopy_ne (fun c => absurd c.1 (by decide))) (Eq.trans (vcopy_ne (fun c => absurd c.1 (by decide))) (Eq.trans (vcopy_ne (fun c => absurd c.1 (by decide))) (Eq.trans (vcopy_ne (fun c => absurd c.1 (by decide))) (Eq.trans (zset_ne (fun c => absurd c.1 (by decide))) (Eq.trans (zset_ne (fun c => absurd c.1 (by decide))) (Eq.trans (zset_ne (fun c => absurd c.1 (by decide))) (Eq.trans (zset_ne (fun c => absurd c.1 (by decide))) (Eq.trans (zset_ne (fun c => absurd c.1 (by decide))) (zset_ne (fun c => absurd c.1 (by decide))))))))))))))))) (hv0.at rfl)) ?_
  refine v_putf (r := 34) hO (hi_X5_becomeLike_5 hT) rfl (fun hf55 => ?_)
  refine v_load (v := (2, 34)) (hi_X5_becomeLike_8 hT) rfl rfl ?_
  refine v_load (v := (2, 80)) (hi_X5_becomeLike_9 hT) rfl rfl ?_
  refine v_getf (v := (0, (h 80 1).2)) (r := 80) (hi_X5_becomeLike_10 hT) rfl rfl (fun hv_ => Eq.trans (Eq.trans (zset_ne (fun c => absurd c.1 (by decide))) (Eq.trans (vcopy_ne (fun c => absurd c.1 (by decide))) (Eq.trans (vcopy_ne (fun c => absurd c.1 (by decide))) (Eq.trans (vcopy_ne (fun c => absurd c.1 (by decide))) (Eq.trans (vcopy_ne (fun c => absurd c.1 (by decide))) (Eq.trans (vcopy_ne (fun c => absurd c.1 (by decide))) (Eq.trans (vcopy_ne (fun c => absurd c.1 (by decide))) (Eq.trans (vcopy_ne (fun c => absurd c.1 (by decide))) (Eq.trans (vcopy_ne (fun c => absurd c.1 (by decide))) (Eq.trans (vcopy_ne (fun c => absurd c.1 (by decide))) (Eq.trans (zset_ne (fun c => absurd c.1 (by decide))) (Eq.trans (zset_ne (fun c => absurd c.1 (by decide))) (Eq.trans (zset_ne (fun c => absurd c.1 (by decide))) (Eq.trans (zset_ne (fun c => absurd c.1 (by decide))) (Eq.trans (zset_ne (fun c => absurd c.1 (by decide))) (zset_ne (fun c => absurd c.1 (by decide)))))))))))))))))) (hv0.at rfl)) ?_
  refine v_putf (r := 34) hO (hi_X5_becomeLike_13 hT) rfl (fun hf56 => ?_)
  refine v_load (v := (2, 80)) (hi_X5_becomeLike_16 hT) rfl rfl ?_
  refine v_getR (c := 81) (r := 80) (hi_X5_becomeLike_17 hT) rfl rfl rfl ?_
  refine v_push (0) (hi_X5_becomeLike_20 hT) rfl ?_
  refine v_load (v := (2, 34)) (hi_X5_becomeLike_21 hT) rfl rfl ?_
  refine v_getR (c := 35) (r := 34) (hi_X5_becomeLike_22 hT) rfl rfl rfl ?_
  refine v_push (0) (hi_X5_becomeLike_25 hT) rfl ?_
  refine v_push (60) (hi_X5_becomeLike_26 hT) rfl ?_
  refine v_copy (r0 := 81) (r1 := 35) (hi_X5_becomeLike_28 hT) rfl rfl rfl rfl (fun hd57 hd58 hd59 hd60 hd61 => ?_)
  refine v_load (v := (2, 80)) (hi_X5_becomeLike_31 hT) rfl rfl ?_
  refine v_getR (c := 82) (r := 80) (hi_X5_becomeLike_32 hT) rfl rfl rfl ?_
  refine v_push (0) (hi_X5_becomeLike_35 hT) rfl ?_
  refine v_load (v := (2, 34)) (hi_X5_becomeLike_36 hT) rfl rfl ?_
  refine v_getR (c := 36) (r := 34) (hi_X5_becomeLike_37 hT) rfl rfl rfl ?_
  refine v_push (0) (hi_X5_becomeLike_40 hT) rfl ?_
  refine v_push (60) (hi_X5_becomeLike_41 hT) rfl ?_
  refine v_copy (r0 := 82) (r1 := 36) (hi_X5_becomeLike_43 hT) rfl rfl rfl rfl (fun hd62 hd63 hd64 hd65 hd66 => ?_)
  refine v_load (v := (2, 80)) (hi_X5_becomeLike_46 hT) rfl rfl ?_
  refine v_getR (c := 83) (r := 80) (hi_X5_becomeLike_47 hT) rfl rfl rfl ?_
  refine v_push (0) (hi_X5_becomeLike_50 hT) rfl ?_
  refine v_load (v := (2, 34)) (hi_X5_becomeLike_51 hT) rfl rfl ?_
  refine v_getR (c := 37) (r := 34) (hi_X5_becomeLike_52 hT) rfl rfl rfl ?_
  refine v_push (0) (hi_X5_becomeLike_55 hT) rfl ?_
  refine v_push (60) (hi_X5_becomeLike_56 hT) rfl ?_
  refine v_copy (r0 := 83) (r1 := 37) (hi_X5_becomeLike_58 hT) rfl rfl rfl rfl (fun hd67 hd68 hd69 hd70 hd71 => ?_)
  refine v_load (v := (2, 80)) (hi_X5_becomeLike_61 hT) rfl rfl ?_
  refine v_getR (c := 84) (r := 80) (hi_X5_becomeLike_62 hT) rfl rfl rfl ?_
  refine v_push (0) (hi_X5_becomeLike_65 hT) rfl ?_
  refine v_load (v := (2, 34)) (hi_X5_becomeLike_66 hT) rfl rfl ?_
  refine v_getR (c := 38) (r := 34) (hi_X5_becomeLike_67 hT) rfl rfl rfl ?_
  refine v_push (0) (hi_X5_becomeLike_70 hT) rfl ?_
  refine v_push (60) (hi_X5_becomeLike_71 hT) rfl ?_
  refine v_copy (r0 := 84) (r1 := 38) (hi_X5_becomeLike_73 hT) rfl rfl rfl rfl (fun hd72 hd73 hd74 hd75 hd76 => ?_)
  refine v_ret0 (hi_X5_becomeLike_76 hT) ?_
  show vP D T N 25 187 (zcopy (zcopy (zcopy (zcopy (zset (zset (zcopy (zcopy (zcopy (zcopy (zcopy (zcopy (zcopy (zcopy (zcopy (zset (zset (zset (zset (zset (zset h 0 10 (0, 1)) 24 0 (0, (h 70 0).2)) 24 1 (0, (h 70 1).2)) 24 2 (0, (h 70 2).2)) 24 3 (0, (h 70 3).2)) 24 4 (0, (h 70 4).2)) 71 0 25 0 48) 72 0 26 0 48) 73 0 27 0 144) 74 0 28 0 6) 75 0 29 0 6) 76 0 30 0 6) 77 0 31 0 6) 78 0 32 0 6) 79 0 33 0 6) 34 0 (0, (h 80 0).2)) 34 1 (0, (h 80 1).2)) 81 0 35 0 60) 82 0 36 0 60) 83 0 37 0 60) 84 0 38 0 60) [some (2, 24), some (2, 70)] [] _
  refine v_ret0 (hi_X2_becomeLike_187 hT) ?_
  show vP D T N 144 40 (zcopy (zcopy (zcopy (zcopy (zset (zset (zcopy (zcopy (zcopy (zcopy (zcopy (zcopy (zcopy (zcopy (zcopy (zset (zset (zset (zset (zset (zset h 0 10 (0, 1)) 24 0 (0, (h 70 0).2)) 24 1 (0, (h 70 1).2)) 24 2 (0, (h 70 2).2)) 24 3 (0, (h 70 3).2)) 24 4 (0, (h 70 4).2)) 71 0 25 0 48) 72 0 26 0 48) 73 0 27 0 144) 74 0 28 0 6) 75 0 29 0 6) 76 0 30 0 6) 77 0 31 0 6) 78 0 32 0 6) 79 0 33 0 6) 34 0 (0, (h 80 0).2)) 34 1 (0, (h 80 1).2)) 81 0 35 0 60) 82 0 36 0 60) 83 0 37 0 60) 84 0 38 0 60) [some (2, 0)] [] _
  refine v_load (v := (2, 0)) (hi_X11_back_40 hT) rfl rfl ?_
  refine v_load (v := (2, 0)) (hi_X11_back_41 hT) rfl rfl ?_
  refine v_getf (v := (0, 1)) (r := 0) (hi_X11_back_42 hT) rfl rfl (fun _ => Eq.trans (Eq.trans (vcopy_ne (fun c => absurd c.1 (by decide))) (Eq.trans (vcopy_ne (fun c => absurd c.1 (by decide))) (Eq.trans (vcopy_ne (fun c => absurd c.1 (by decide))) (Eq.trans (vcopy_ne (fun c => absurd c.1 (by decide))) (Eq.trans (zset_ne (fun c => absurd c.1 (by decide))) (Eq.trans (zset_ne (fun c => absurd c.1 (by decide))) (Eq.trans (vcopy_ne (fun c => absurd c.1 (by decide))) (Eq.trans (vcopy_ne (fun c => absurd c.1 (by decide))) (Eq.trans (vcopy_ne (fun c => absurd c.1 (by decide))) (Eq.trans (vcopy_ne (fun c => absurd c.1 (by decide))) (Eq.trans (vcopy_ne (fun c => absurd c.1 (by decide))) (Eq.trans (vcopy_ne (fun c => absurd c.1 (by decide))) (Eq.trans (vcopy_ne (fun c => absurd c.1 (by decide))) (Eq.trans (vcopy_ne (fun c => absurd c.1 (by decide))) (Eq.trans (vcopy_ne (fun c => absurd c.1 (by decide))) (Eq.trans (zset_ne (fun c => absurd c.1 (by decide))) (Eq.trans (zset_ne (fun c => absurd c.1 (by decide))) (Eq.trans (zset_ne (fun c => absurd c.1 (by decide))) (Eq.trans (zset_ne (fun c => absurd c.1 (by decide))) (zset_ne (fun c => absurd c.1 (by decide)))))))))))))))))))))) zset_same) ?_
  refine v_call (w := 2) [some (2, 0), some (0, 1)] hO (hi_X11_back_45 hT) rfl rfl ?_
  refine v_load (v := (2, 0)) (hi_X11_answer_0 hT) rfl rfl ?_
  refine v_push (0) (hi_X11_answer_1 hT) rfl ?_
  refine v_putf (r := 0) hO (hi_X11_answer_2 hT) rfl (fun hf77 => ?_)
  refine v_load (v := (0, 1)) (hi_X11_answer_5 hT) rfl rfl ?_
  refine v_ret (hi_X11_answer_6 hT) (Or.inl rfl) ?_
  show vP D T N 144 48 (zset (zcopy (zcopy (zcopy (zcopy (zset (zset (zcopy (zcopy (zcopy (zcopy (zcopy (zcopy (zcopy (zcopy (zcopy (zset (zset (zset (zset (zset (zset h 0 10 (0, 1)) 24 0 (0, (h 70 0).2)) 24 1 (0, (h 70 1).2)) 24 2 (0, (h 70 2).2)) 24 3 (0, (h 70 3).2)) 24 4 (0, (h 70 4).2)) 71 0 25 0 48) 72 0 26 0 48) 73 0 27 0 144) 74 0 28 0 6) 75 0 29 0 6) 76 0 30 0 6) 77 0 31 0 6) 78 0 32 0 6) 79 0 33 0 6) 34 0 (0, (h 80 0).2)) 34 1 (0, (h 80 1).2)) 81 0 35 0 60) 82 0 36 0 60) 83 0 37 0 60) 84 0 38 0 60) 0 0 (0, 0)) [some (2, 0)] [(0, 1)] _
  refine v_ret (hi_X11_back_48 hT) (Or.inl rfl) ?_
  exact k0 
theorem qc_mark_24_2 {D : zD} {T : zT} (hT : hTab T) (hO : vOK T) {N : Nat} {h : zH} {Q : zR → Prop}  (hv0 : zHv h) (e7 : h 0 7 = (2, 24)) (em : h 0 10 = (0, 2))
    (k0 : Q (zset (zset (zcopy (zcopy (zcopy (zcopy (zset (zset (zcopy (zcopy (zcopy (zcopy (zcopy (zcopy (zcopy (zcopy (zcopy (zset (zset (zset (zset (zset h 85 0 (0, (h 24 0).2)) 85 1 (0, (h 24 1).2)) 85 2 (0, (h 24 2).2)) 85 3 (0, (h 24 3).2)) 85 4 (0, (h 24 4).2)) 25 0 86 0 48) 26 0 87 0 48) 27 0 88 0 144) 28 0 89 0 6) 29 0 90 0 6) 30 0 91 0 6) 31 0 92 0 6) 32 0 93 0 6) 33 0 94 0 6) 95 0 (0, (h 34 0).2)) 95 1 (0, (h 34 1).2)) 35 0 96 0 60) 36 0 97 0 60) 37 0 98 0 60) 38 0 99 0 60) 0 10 (0, 3)) 0 0 (0, 0), some (0, 3))) :
    vP D T N 165 0 h [some (2, 0)] [] Q := by
  refine v_load (v := (2, 0)) (hi_X11_mark_0 hT) rfl rfl ?_
  refine v_getf (v := (0, 2)) (r := 0) (hi_X11_mark_1 hT) rfl rfl (fun _ => em) ?_
  refine v_push (3) (hi_X11_mark_4 hT) rfl ?_
  refine v_ic (hi_X11_mark_5 hT) (fun _ => ?_) (fun hc1 => absurd (show (2 : Int) < 3 from (by decide)) hc1)
  refine v_load (v := (2, 0)) (hi_X11_mark_15 hT) rfl rfl ?_
  refine v_getR (c := 54) (r := 0) (hi_X11_mark_16 hT) rfl rfl rfl ?_
  refine v_load (v := (2, 0)) (hi_X11_mark_19 hT) rfl rfl ?_
  refine v_getf (v := (0, 2)) (r := 0) (hi_X11_mark_20 hT) rfl rfl (fun _ => em) ?_
  refine v_aldV (v := (2, 85)) (r := 54) (hi_X11_mark_23 hT) rfl rfl (fun hv _ _ => hv.ref rfl) (fun ha2 hb3 => ?_)
  refine v_load (v := (2, 0)) (hi_X11_mark_24 hT) rfl rfl ?_
  refine v_getf (v := (2, 24)) (r := 0) (hi_X11_mark_25 hT) rfl rfl (fun _ => e7) ?_
  refine v_call (w := 2) [some (2, 85), some (2, 24)] hO (hi_X11_mark_28 hT) rfl rfl ?_
  refine v_load (v := (2, 85)) (hi_X2_becomeLike_0 hT) rfl rfl ?_
  refine v_load (v := (2, 24)) (hi_X2_becomeLike_1 hT) rfl rfl ?_
  refine v_getI (t := 0) (r := 24) (hi_X2_becomeLike_2 hT) rfl rfl rfl ?_
  refine v_putf (r := 85) hO (hi_X2_becomeLike_5 hT) rfl (fun hf4 => ?_)
  refine v_load (v := (2, 85)) (hi_X2_becomeLike_8 hT) rfl rfl ?_
  refine v_load (v := (2, 24)) (hi_X2_becomeLike_9 hT) rfl rfl ?_
  refine v_getf (v := (0, (h 24 1).2)) (r := 24) (hi_X2_becomeLike_10 hT) rfl rfl (fun hv_ => Eq.trans (zset_ne (fun c => absurd c.1 (by decide))) (hv0.at rfl)) ?_
  refine v_putf (r := 85) hO (hi_X2_becomeLike_13 hT) rfl (fun hf5 => ?_)
  refine v_load (v := (2, 85)) (hi_X2_becomeLike_16 hT) rfl rfl ?_
  refine v_load (v := (2, 24)) (hi_X2_becomeLike_17 hT) rfl rfl ?_
  refine v_getf (v := (0, (h 24 2).2)) (r := 24) (hi_X2_becomeLike_18 hT) rfl rfl (fun hv_ => Eq.trans (Eq.trans (zset_ne (fun c => absurd c.1 (by decide))) (zset_ne (fun c => absurd c.1 (by decide)))) (hv0.at rfl)) ?_
  refine v_putf (r := 85) hO (hi_X2_becomeLike_21 hT) rfl (fun hf6 => ?_)
  refine v_load (v := (2, 85)) (hi_X2_becomeLike_24 hT) rfl rfl ?_
  refine v_load (v := (2, 24)) (hi_X2_becomeLike_25 hT) rfl rfl ?_
  refine v_getf (v := (0, (h 24 3).2)) (r := 24) (hi_X2_becomeLike_26 hT) rfl rfl (fun hv_ => Eq.trans (Eq.trans (zset_ne (fun c => absurd c.1 (by decide))) (Eq.trans (zset_ne (fun c => absurd c.1 (by decide))) (zset_ne (fun c => absurd c.1 (by decide))))) (hv0.at rfl)) ?_
  refine v_putf (r := 85) hO (hi_X2_becomeLike_29 hT) rfl (fun hf7 => ?_)
  refine v_load (v := (2, 85)) (hi_X2_becomeLike_32 hT) rfl rfl ?_
  refine v_load (v := (2, 24)) (hi_X2_becomeLike_33 hT) rfl rfl ?_
  refine v_getf (v := (0, (h 24 4).2)) (r := 24) (hi_X2_becomeLike_34 hT) rfl rfl (fun hv_ => Eq.trans (Eq.trans (zset_ne (fun c => absurd c.1 (by decide))) (Eq.trans (zset_ne (fun c => absurd c.1 (by decide))) (Eq.trans (zset_ne (fun c => absurd c.1 (by decide))) (zset_ne (fun c => absurd c.1 (by decide)))))) (hv0.at rfl)) ?_
  refine v_putf (r := 85) hO (hi_X2_becomeLike_37 hT) rfl (fun hf8 => ?_)
  refine v_load (v := (2, 24)) (hi_X2_becomeLike_40 hT) rfl rfl ?_
  refine v_getR (c := 25) (r := 24) (hi_X2_becomeLike_41 hT) rfl rfl rfl ?_
  refine v_push (0) (hi_X2_becomeLike_44 hT) rfl ?_
  refine v_load (v := (2, 85)) (hi_X2_becomeLike_45 hT) rfl rfl ?_
  refine v_getR (c := 86) (r := 85) (hi_X2_becomeLike_46 hT) rfl rfl rfl ?_
  refine v_push (0) (hi_X2_becomeLike_49 hT) rfl ?_
  refine v_push (48) (hi_X2_becomeLike_50 hT) rfl ?_
  refine v_copy (r0 := 25) (r1 := 86) (hi_X2_becomeLike_52 hT) rfl rfl rfl rfl (fun hd9 hd10 hd11 hd12 hd13 => ?_)
  refine v_load (v := (2, 24)) (hi_X2_becomeLike_55 hT) rfl rfl ?_
  refine v_getR (c := 26) (r := 24) (hi_X2_becomeLike_56 hT) rfl rfl rfl ?_
  refine v_push (0) (hi_X2_becomeLike_59 hT) rfl ?_
  refine v_load (v := (2, 85)) (hi_X2_becomeLike_60 hT) rfl rfl ?_
  refine v_getR (c := 87) (r := 85) (hi_X2_becomeLike_61 hT) rfl rfl rfl ?_
  refine v_push (0) (hi_X2_becomeLike_64 hT) rfl ?_
  refine v_push (48) (hi_X2_becomeLike_65 hT) rfl ?_
  refine v_copy (r0 := 26) (r1 := 87) (hi_X2_becomeLike_67 hT) rfl rfl rfl rfl (fun hd14 hd15 hd16 hd17 hd18 => ?_)
  refine v_load (v := (2, 24)) (hi_X2_becomeLike_70 hT) rfl rfl ?_
  refine v_getR (c := 27) (r := 24) (hi_X2_becomeLike_71 hT) rfl rfl rfl ?_
  refine v_push (0) (hi_X2_becomeLike_74 hT) rfl ?_
  refine v_load (v := (2, 85)) (hi_X2_becomeLike_75 hT) rfl rfl ?_
  refine v_getR (c := 88) (r := 85) (hi_X2_becomeLike_76 hT) rfl rfl rfl ?_
  refine v_push (0) (hi_X2_becomeLike_79 hT) rfl ?_
  refine v_push (144) (hi_X2_becomeLike_80 hT) rfl ?_
  refine v_copy (r0 := 27) (r1 := 88) (hi_X2_becomeLike_83 hT) rfl rfl rfl rfl (fun hd19 hd20 hd21 hd22 hd23 => ?_)
  refine v_load (v := (2, 24)) (hi_X2_becomeLike_86 hT) rfl rfl ?_
  refine v_getR (c := 28) (r := 24) (hi_X2_becomeLike_87 hT) rfl rfl rfl ?_
  refine v_push (0) (hi_X2_becomeLike_90 hT) rfl ?_
  refine v_load (v := (2, 85)) (hi_X2_becomeLike_91 hT) rfl rfl ?_
  refine v_getR (c := 89) (r := 85) (hi_X2_becomeLike_92 hT) rfl rfl rfl ?_
  refine v_push (0) (hi_X2_becomeLike_95 hT) rfl ?_
  refine v_push (6) (hi_X2_becomeLike_96 hT) rfl ?_
  refine v_copy (r0 := 28) (r1 := 89) (hi_X2_becomeLike_98 hT) rfl rfl rfl rfl (fun hd24 hd25 hd26 hd27 hd28 => ?_)
  refine v_load (v := (2, 24)) (hi_X2_becomeLike_101 hT) rfl rfl ?_
  refine v_getR (c := 29) (r := 24) (hi_X2_becomeLike_102 hT) rfl rfl rfl ?_
  refine v_push (0) (hi_X2_becomeLike_105 hT) rfl ?_
  refine v_load (v := (2, 85)) (hi_X2_becomeLike_106 hT) rfl rfl ?_
  refine v_getR (c := 90) (r := 85) (hi_X2_becomeLike_107 hT) rfl rfl rfl ?_
  refine v_push (0) (hi_X2_becomeLike_110 hT) rfl ?_
  refine v_push (6) (hi_X2_becomeLike_111 hT) rfl ?_
  refine v_copy (r0 := 29) (r1 := 90) (hi_X2_becomeLike_113 hT) rfl rfl rfl rfl (fun hd29 hd30 hd31 hd32 hd33 => ?_)
  refine v_load (v := (2, 24)) (hi_X2_becomeLike_116 hT) rfl rfl ?_
  refine v_getR (c := 30) (r := 24) (hi_X2_becomeLike_117 hT) rfl rfl rfl ?_
  refine v_push (0) (hi_X2_becomeLike_120 hT) rfl ?_
  refine v_load (v := (2, 85)) (hi_X2_becomeLike_121 hT) rfl rfl ?_
  refine v_getR (c := 91) (r := 85) (hi_X2_becomeLike_122 hT) rfl rfl rfl ?_
  refine v_push (0) (hi_X2_becomeLike_125 hT) rfl ?_
  refine v_push (6) (hi_X2_becomeLike_126 hT) rfl ?_
  refine v_copy (r0 := 30) (r1 := 91) (hi_X2_becomeLike_128 hT) rfl rfl rfl rfl (fun hd34 hd35 hd36 hd37 hd38 => ?_)
  refine v_load (v := (2, 24)) (hi_X2_becomeLike_131 hT) rfl rfl ?_
  refine v_getR (c := 31) (r := 24) (hi_X2_becomeLike_132 hT) rfl rfl rfl ?_
  refine v_push (0) (hi_X2_becomeLike_135 hT) rfl ?_
  refine v_load (v := (2, 85)) (hi_X2_becomeLike_136 hT) rfl rfl ?_
  refine v_getR (c := 92) (r := 85) (hi_X2_becomeLike_137 hT) rfl rfl rfl ?_
  refine v_push (0) (hi_X2_becomeLike_140 hT) rfl ?_
  refine v_push (6) (hi_X2_becomeLike_141 hT) rfl ?_
  refine v_copy (r0 := 31) (r1 := 92) (hi_X2_becomeLike_143 hT) rfl rfl rfl rfl (fun hd39 hd40 hd41 hd42 hd43 => ?_)
  refine v_load (v := (2, 24)) (hi_X2_becomeLike_146 hT) rfl rfl ?_
  refine v_getR (c := 32) (r := 24) (hi_X2_becomeLike_147 hT) rfl rfl rfl ?_
  refine v_push (0) (hi_X2_becomeLike_150 hT) rfl ?_
  refine v_load (v := (2, 85)) (hi_X2_becomeLike_151 hT) rfl rfl ?_
  refine v_getR (c := 93) (r := 85) (hi_X2_becomeLike_152 hT) rfl rfl rfl ?_
  refine v_push (0) (hi_X2_becomeLike_155 hT) rfl ?_
  refine v_push (6) (hi_X2_becomeLike_156 hT) rfl ?_
  refine v_copy (r0 := 32) (r1 := 93) (hi_X2_becomeLike_158 hT) rfl rfl rfl rfl (fun hd44 hd45 hd46 hd47 hd48 => ?_)
  refine v_load (v := (2, 24)) (hi_X2_becomeLike_161 hT) rfl rfl ?_
  refine v_getR (c := 33) (r := 24) (hi_X2_becomeLike_162 hT) rfl rfl rfl ?_
  refine v_push (0) (hi_X2_becomeLike_165 hT) rfl ?_
  refine v_load (v := (2, 85)) (hi_X2_becomeLike_166 hT) rfl rfl ?_
  refine v_getR (c := 94) (r := 85) (hi_X2_becomeLike_167 hT) rfl rfl rfl ?_
  refine v_push (0) (hi_X2_becomeLike_170 hT) rfl ?_
  refine v_push (6) (hi_X2_becomeLike_171 hT) rfl ?_
  refine v_copy (r0 := 33) (r1 := 94) (hi_X2_becomeLike_173 hT) rfl rfl rfl rfl (fun hd49 hd50 hd51 hd52 hd53 => ?_)
  refine v_load (v := (2, 85)) (hi_X2_becomeLike_176 hT) rfl rfl ?_
  refine v_getR (c := 95) (r := 85) (hi_X2_becomeLike_177 hT) rfl rfl rfl ?_
  refine v_load (v := (2, 24)) (hi_X2_becomeLike_180 hT) rfl rfl ?_
  refine v_getR (c := 34) (r := 24) (hi_X2_becomeLike_181 hT) rfl rfl rfl ?_
  refine v_call (w := 2) [some (2, 95), some (2, 34)] hO (hi_X2_becomeLike_184 hT) rfl rfl ?_
  refine v_load (v := (2, 95)) (hi_X5_becomeLike_0 hT) rfl rfl ?_
  refine v_load (v := (2, 34)) (hi_X5_becomeLike_1 hT) rfl rfl ?_
  refine v_getf (v := (0, (h 34 0).2)) (r := 34) (hi_X5_becomeLike_2 hT) rfl rfl (fun hv_ => Eq.trans (Eq.trans (vcopy_ne (fun c => absurd c.1 (by decide))) (Eq.trans (vcopy_ne (fun c => absurd c.1 (by decide))) (Eq.trans (vcopy_ne (fun c => absurd c.1 (by decide))) (Eq.trans (vcopy_ne (fun c => absurd c.1 (by decide))) (Eq.trans (vcopy_ne (fun c => absurd c.1 (by decide))) (Eq.trans (vcopy_ne (fun c => absurd c.1 (by decide))) (Eq.trans (vcopy_ne (fun c => absurd c.1 (by decide))) (Eq.trans (vcopy_ne (fun c => absurd c.1 (by decide))) (Eq.trans (vcopy_ne (fun c => absurd c.1 (by decide))) (Eq.trans (zset_ne (fun c => absurd c.1 (by decide))) (Eq.trans (zset_ne (fun c => absurd c.1 (by decide))) (Eq.trans (zset_ne (fun c => absurd c.1 (by decide))) (Eq.trans (zset_ne (fun c => absurd c.1 (by decide))) (zset_ne (fun c => absurd c.1 (by decide)))))))))))))))) (hv0.at rfl)) ?_
  refine v_putf (r := 95) hO (hi_X5_becomeLike_5 hT) rfl (fun hf54 => ?_)
  refine v_load (v := (2, 95)) (hi_X5_becomeLike_8 hT) rfl rfl ?_
  refine v_load (v := (2, 34)) (hi_X5_becomeLike_9 hT) rfl rfl ?_
  refine v_getf (v := (0, (h 34 1).2)) (r := 34) (hi_X5_becomeLike_10 hT) rfl rfl (fun hv_ => Eq.trans (Eq.trans (zset_ne (fun c => absurd c.1 (by decide))) (Eq.trans (vcopy_ne (fun c => absurd c.1 (by decide))) (Eq.trans (vcopy_ne (fun c => absurd c.1 (by decide))) (Eq.trans (vcopy_ne (fun c => absurd c.1 (by decide))) (Eq.trans (vcopy_ne (fun c => absurd c.1 (by decide))) (Eq.trans (vcopy_ne (fun c => absurd c.1 (by decide))) (Eq.trans (vcopy_ne (fun c => absurd c.1 (by decide))) (Eq.trans (vcopy_ne (fun c => absurd c.1 (by decide))) (Eq.trans (vcopy_ne (fun c => absurd c.1 (by decide))) (Eq.trans (vcopy_ne (fun c => absurd c.1 (by decide))) (Eq.trans (zset_ne (fun c => absurd c.1 (by decide))) (Eq.trans (zset_ne (fun c => absurd c.1 (by decide))) (Eq.trans (zset_ne (fun c => absurd c.1 (by decide))) (Eq.trans (zset_ne (fun c => absurd c.1 (by decide))) (zset_ne (fun c => absurd c.1 (by decide))))))))))))))))) (hv0.at rfl)) ?_
  refine v_putf (r := 95) hO (hi_X5_becomeLike_13 hT) rfl (fun hf55 => ?_)
  refine v_load (v := (2, 34)) (hi_X5_becomeLike_16 hT) rfl rfl ?_
  refine v_getR (c := 35) (r := 34) (hi_X5_becomeLike_17 hT) rfl rfl rfl ?_
  refine v_push (0) (hi_X5_becomeLike_20 hT) rfl ?_
  refine v_load (v := (2, 95)) (hi_X5_becomeLike_21 hT) rfl rfl ?_
  refine v_getR (c := 96) (r := 95) (hi_X5_becomeLike_22 hT) rfl rfl rfl ?_
  refine v_push (0) (hi_X5_becomeLike_25 hT) rfl ?_
  refine v_push (60) (hi_X5_becomeLike_26 hT) rfl ?_
  refine v_copy (r0 := 35) (r1 := 96) (hi_X5_becomeLike_28 hT) rfl rfl rfl rfl (fun hd56 hd57 hd58 hd59 hd60 => ?_)
  refine v_load (v := (2, 34)) (hi_X5_becomeLike_31 hT) rfl rfl ?_
  refine v_getR (c := 36) (r := 34) (hi_X5_becomeLike_32 hT) rfl rfl rfl ?_
  refine v_push (0) (hi_X5_becomeLike_35 hT) rfl ?_
  refine v_load (v := (2, 95)) (hi_X5_becomeLike_36 hT) rfl rfl ?_
  refine v_getR (c := 97) (r := 95) (hi_X5_becomeLike_37 hT) rfl rfl rfl ?_
  refine v_push (0) (hi_X5_becomeLike_40 hT) rfl ?_
  refine v_push (60) (hi_X5_becomeLike_41 hT) rfl ?_
  refine v_copy (r0 := 36) (r1 := 97) (hi_X5_becomeLike_43 hT) rfl rfl rfl rfl (fun hd61 hd62 hd63 hd64 hd65 => ?_)
  refine v_load (v := (2, 34)) (hi_X5_becomeLike_46 hT) rfl rfl ?_
  refine v_getR (c := 37) (r := 34) (hi_X5_becomeLike_47 hT) rfl rfl rfl ?_
  refine v_push (0) (hi_X5_becomeLike_50 hT) rfl ?_
  refine v_load (v := (2, 95)) (hi_X5_becomeLike_51 hT) rfl rfl ?_
  refine v_getR (c := 98) (r := 95) (hi_X5_becomeLike_52 hT) rfl rfl rfl ?_
  refine v_push (0) (hi_X5_becomeLike_55 hT) rfl ?_
  refine v_push (60) (hi_X5_becomeLike_56 hT) rfl ?_
  refine v_copy (r0 := 37) (r1 := 98) (hi_X5_becomeLike_58 hT) rfl rfl rfl rfl (fun hd66 hd67 hd68 hd69 hd70 => ?_)
  refine v_load (v := (2, 34)) (hi_X5_becomeLike_61 hT) rfl rfl ?_
  refine v_getR (c := 38) (r := 34) (hi_X5_becomeLike_62 hT) rfl rfl rfl ?_
  refine v_push (0) (hi_X5_becomeLike_65 hT) rfl ?_
  refine v_load (v := (2, 95)) (hi_X5_becomeLike_66 hT) rfl rfl ?_
  refine v_getR (c := 99) (r := 95) (hi_X5_becomeLike_67 hT) rfl rfl rfl ?_
  refine v_push (0) (hi_X5_becomeLike_70 hT) rfl ?_
  refine v_push (60) (hi_X5_becomeLike_71 hT) rfl ?_
  refine v_copy (r0 := 38) (r1 := 99) (hi_X5_becomeLike_73 hT) rfl rfl rfl rfl (fun hd71 hd72 hd73 hd74 hd75 => ?_)
  refine v_ret0 (hi_X5_becomeLike_76 hT) ?_
  show vP D T N 25 187 (zcopy (zcopy (zcopy (zcopy (zset (zset (zcopy (zcopy (zcopy (zcopy (zcopy (zcopy (zcopy (zcopy (zcopy (zset (zset (zset (zset (zset h 85 0 (0, (h 24 0).2)) 85 1 (0, (h 24 1).2)) 85 2 (0, (h 24 2).2)) 85 3 (0, (h 24 3).2)) 85 4 (0, (h 24 4).2)) 25 0 86 0 48) 26 0 87 0 48) 27 0 88 0 144) 28 0 89 0 6) 29 0 90 0 6) 30 0 91 0 6) 31 0 92 0 6) 32 0 93 0 6) 33 0 94 0 6) 95 0 (0, (h 34 0).2)) 95 1 (0, (h 34 1).2)) 35 0 96 0 60) 36 0 97 0 60) 37 0 98 0 60) 38 0 99 0 60) [some (2, 85), some (2, 24)] [] _
  refine v_ret0 (hi_X2_becomeLike_187 hT) ?_
  show vP D T N 165 31 (zcopy (zcopy (zcopy (zcopy (zset (zset (zcopy (zcopy (zcopy (zcopy (zcopy (zcopy (zcopy (zcopy (zcopy (zset (zset (zset (zset (zset h 85 0 (0, (h 24 0).2)) 85 1 (0, (h 24 1).2)) 85 2 (0, (h 24 2).2)) 85 3 (0, (h 24 3).2)) 85 4 (0, (h 24 4).2)) 25 0 86 0 48) 26 0 87 0 48) 27 0 88 0 144) 28 0 89 0 6) 29 0 90 0 6) 30 0 91 0 6) 31 0 92 0 6) 32 0 93 0 6) 33 0 94 0 6) 95 0 (0, (h 34 0).2)) 95 1 (0, (h 34 1).2)) 35 0 96 0 60) 36 0 97 0 60) 37 0 98 0 60) 38 0 99 0 60) [some (2, 0)] [] _
  refine v_load (v := (2, 0)) (hi_X11_mark_31 hT) rfl rfl ?_
  refine v_dup (hi_X11_mark_32 hT) (Nat.ne_of_beq_eq_false rfl) ?_
  refine v_getf (v := (0, 2)) (r := 0) (hi_X11_mark_33 hT) rfl rfl (fun _ => Eq.trans (Eq.trans (vcopy_ne (fun c => absurd c.1 (by decide))) (Eq.trans (vcopy_ne (fun c => absurd c.1 (by decide))) (Eq.trans (vcopy_ne (fun c => absurd c.1 (by decide))) (Eq.trans (vcopy_ne (fun c => absurd c.1 (by decide))) (Eq.trans (zset_ne (fun c => absurd c.1 (by decide))) (Eq.trans (zset_ne (fun c => absurd c.1 (by decide))) (Eq.trans (vcopy_ne (fun c => absurd c.1 (by decide))) (Eq.trans (vcopy_ne (fun c => absurd c.1 (by decide))) (Eq.trans (vcopy_ne (fun c => absurd c.1 (by decide))) (Eq.trans (vcopy_ne (fun c => absurd c.1 (by decide))) (Eq.trans (vcopy_ne (fun c => absurd c.1 (by decide))) (Eq.trans (vcopy_ne (fun c => absurd c.1 (by decide))) (Eq.trans (vcopy_ne (fun c => absurd c.1 (by decide))) (Eq.trans (vcopy_ne (fun c => absurd c.1 (by decide))) (Eq.trans (vcopy_ne (fun c => absurd c.1 (by decide))) (Eq.trans (zset_ne (fun c => absurd c.1 (by decide))) (Eq.trans (zset_ne (fun c => absurd c.1 (by decide))) (Eq.trans (zset_ne (fun c => absurd c.1 (by decide))) (Eq.trans (zset_ne (fun c => absurd c.1 (by decide))) (zset_ne (fun c => absurd c.1 (by decide)))))))))))))))))))))) (em)) ?_
  refine v_push (1) (hi_X11_mark_36 hT) rfl ?_
  refine v_bin (w := 3) (hi_X11_mark_37 hT) (by decide) ?_
  refine v_putf (r := 0) hO (hi_X11_mark_38 hT) rfl (fun hf76 => ?_)
  refine v_load (v := (2, 0)) (hi_X11_mark_41 hT) rfl rfl ?_
  refine v_load (v := (2, 0)) (hi_X11_mark_42 hT) rfl rfl ?_
  refine v_getf (v := (0, 3)) (r := 0) (hi_X11_mark_43 hT) rfl rfl (fun _ => zset_same) ?_
  refine v_call (w := 2) [some (2, 0), some (0, 3)] hO (hi_X11_mark_46 hT) rfl rfl ?_
  refine v_load (v := (2, 0)) (hi_X11_answer_0 hT) rfl rfl ?_
  refine v_push (0) (hi_X11_answer_1 hT) rfl ?_
  refine v_putf (r := 0) hO (hi_X11_answer_2 hT) rfl (fun hf77 => ?_)
  refine v_load (v := (0, 3)) (hi_X11_answer_5 hT) rfl rfl ?_
  refine v_ret (hi_X11_answer_6 hT) (Or.inl rfl) ?_
  show vP D T N 165 49 (zset (zset (zcopy (zcopy (zcopy (zcopy (zset (zset (zcopy (zcopy (zcopy (zcopy (zcopy (zcopy (zcopy (zcopy (zcopy (zset (zset (zset (zset (zset h 85 0 (0, (h 24 0).2)) 85 1 (0, (h 24 1).2)) 85 2 (0, (h 24 2).2)) 85 3 (0, (h 24 3).2)) 85 4 (0, (h 24 4).2)) 25 0 86 0 48) 26 0 87 0 48) 27 0 88 0 144) 28 0 89 0 6) 29 0 90 0 6) 30 0 91 0 6) 31 0 92 0 6) 32 0 93 0 6) 33 0 94 0 6) 95 0 (0, (h 34 0).2)) 95 1 (0, (h 34 1).2)) 35 0 96 0 60) 36 0 97 0 60) 37 0 98 0 60) 38 0 99 0 60) 0 10 (0, 3)) 0 0 (0, 0)) [some (2, 0)] [(0, 3)] _
  refine v_ret (hi_X11_mark_49 hT) (Or.inl rfl) ?_
  exact k0 
theorem qc_back_24_2 {D : zD} {T : zT} (hT : hTab T) (hO : vOK T) {N : Nat} {h : zH} {Q : zR → Prop}  (hv0 : zHv h) (e7 : h 0 7 = (2, 24)) (em : h 0 10 = (0, 3))
    (k0 : Q (zset (zcopy (zcopy (zcopy (zcopy (zset (zset (zcopy (zcopy (zcopy (zcopy (zcopy (zcopy (zcopy (zcopy (zcopy (zset (zset (zset (zset (zset (zset h 0 10 (0, 2)) 24 0 (0, (h 85 0).2)) 24 1 (0, (h 85 1).2)) 24 2 (0, (h 85 2).2)) 24 3 (0, (h 85 3).2)) 24 4 (0, (h 85 4).2)) 86 0 25 0 48) 87 0 26 0 48) 88 0 27 0 144) 89 0 28 0 6) 90 0 29 0 6) 91 0 30 0 6) 92 0 31 0 6) 93 0 32 0 6) 94 0 33 0 6) 34 0 (0, (h 95 0).2)) 34 1 (0, (h 95 1).2)) 96 0 35 0 60) 97 0 36 0 60) 98 0 37 0 60) 99 0 38 0 60) 0 0 (0, 0), some (0, 2))) :
    vP D T N 144 0 h [some (2, 0)] [] Q := by
  refine v_load (v := (2, 0)) (hi_X11_back_0 hT) rfl rfl ?_
  refine v_getf (v := (0, 3)) (r := 0) (hi_X11_back_1 hT) rfl rfl (fun _ => em) ?_
  refine v_if (hi_X11_back_4 hT) (fun _ => ?_) (fun hc1 => absurd (show 0 < (3 : Int) from (by decide)) hc1)
  refine v_load (v := (2, 0)) (hi_X11_back_14 hT) rfl rfl ?_
  refine v_dup (hi_X11_back_15 hT) (Nat.ne_of_beq_eq_false rfl) ?_
  refine v_getf (v := (0, 3)) (r := 0) (hi_X11_back_16 hT) rfl rfl (fun _ => em) ?_
  refine v_push (1) (hi_X11_back_19 hT) rfl ?_
  refine v_bin (w := 2) (hi_X11_back_20 hT) (by decide) ?_
  refine v_putf (r := 0) hO (hi_X11_back_21 hT) rfl (fun hf2 => ?_)
  refine v_load (v := (2, 0)) (hi_X11_back_24 hT) rfl rfl ?_
  refine v_getf (v := (2, 24)) (r := 0) (hi_X11_back_25 hT) rfl rfl (fun _ => Eq.trans (zset_ne (fun c => absurd c.2 (by decide))) (e7)) ?_
  refine v_load (v := (2, 0)) (hi_X11_back_28 hT) rfl rfl ?_
  refine v_getR (c := 54) (r := 0) (hi_X11_back_29 hT) rfl rfl rfl ?_
  refine v_load (v := (2, 0)) (hi_X11_back_32 hT) rfl rfl ?_
  refine v_getf (v := (0, 2)) (r := 0) (hi_X11_back_33 hT) rfl rfl (fun _ => zset_same) ?_
  refine v_aldV (v := (2, 85)) (r := 54) (hi_X11_back_36 hT) rfl rfl (fun hv _ _ => hv.ref rfl) (fun ha3 hb4 => ?_)
  refine v_call (w := 2) [some (2, 24), some (2, 85)] hO (hi_X11_back_37 hT) rfl rfl ?_
  refine v_load (v := (2, 24)) (hi_X2_becomeLike_0 hT) rfl rfl ?_
  refine v_load (v := (2, 85)) (hi_X2_becomeLike_1 hT) rfl rfl ?_
  refine v_getf (v := (0, (h 85 0).2)) (r := 85) (hi_X2_becomeLike_2 hT) rfl rfl (fun hv_ => Eq.trans (zset_ne (fun c => absurd c.1 (by decide))) (hv0.at rfl)) ?_
  refine v_putf (r := 24) hO (hi_X2_becomeLike_5 hT) rfl (fun hf5 => ?_)
  refine v_load (v := (2, 24)) (hi_X2_becomeLike_8 hT) rfl rfl ?_
  refine v_load (v := (2, 85)) (hi_X2_becomeLike_9 hT) rfl rfl ?_
  refine v_getf (v := (0, (h 85 1).2)) (r := 85) (hi_X2_becomeLike_10 hT) rfl rfl (fun hv_ => Eq.trans (Eq.trans (zset_ne (fun c => absurd c.1 (by decide))) (zset_ne (fun c => absurd c.1 (by decide)))) (hv0.at rfl)) ?_
  refine v_putf (r := 24) hO (hi_X2_becomeLike_13 hT) rfl (fun hf6 => ?_)
  refine v_load (v := (2, 24)) (hi_X2_becomeLike_16 hT) rfl rfl ?_
  refine v_load (v := (2, 85)) (hi_X2_becomeLike_17 hT) rfl rfl ?_
  refine v_getf (v := (0, (h 85 2).2)) (r := 85) (hi_X2_becomeLike_18 hT) rfl rfl (fun hv_ => Eq.trans (Eq.trans (zset_ne (fun c => absurd c.1 (by decide))) (Eq.trans (zset_ne (fun c => absurd c.1 (by decide))) (zset_ne (fun c => absurd c.1 (by decide))))) (hv0.at rfl)) ?_
  refine v_putf (r := 24) hO (hi_X2_becomeLike_21 hT) rfl (fun hf7 => ?_)
  refine v_load (v := (2, 24)) (hi_X2_becomeLike_24 hT) rfl rfl ?_
  refine v_load (v := (2, 85)) (hi_X2_becomeLike_25 hT) rfl rfl ?_
  refine v_getf (v := (0, (h 85 3).2)) (r := 85) (hi_X2_becomeLike_26 hT) rfl rfl (fun hv_ => Eq.trans (Eq.trans (zset_ne (fun c => absurd c.1 (by decide))) (Eq.trans (zset_ne (fun c => absurd c.1 (by decide))) (Eq.trans (zset_ne (fun c => absurd c.1 (by decide))) (zset_ne (fun c => absurd c.1 (by decide)))))) (hv0.at rfl)) ?_
  refine v_putf (r := 24) hO (hi_X2_becomeLike_29 hT) rfl (fun hf8 => ?_)
  refine v_load (v := (2, 24)) (hi_X2_becomeLike_32 hT) rfl rfl ?_
  refine v_load (v := (2, 85)) (hi_X2_becomeLike_33 hT) rfl rfl ?_
  refine v_getf (v := (0, (h 85 4).2)) (r := 85) (hi_X2_becomeLike_34 hT) rfl rfl (fun hv_ => Eq.trans (Eq.trans (zset_ne (fun c => absurd c.1 (by decide))) (Eq.trans (zset_ne (fun c => absurd c.1 (by decide))) (Eq.trans (zset_ne (fun c => absurd c.1 (by decide))) (Eq.trans (zset_ne (fun c => absurd c.1 (by decide))) (zset_ne (fun c => absurd c.1 (by decide))))))) (hv0.at rfl)) ?_
  refine v_putf (r := 24) hO (hi_X2_becomeLike_37 hT) rfl (fun hf9 => ?_)
  refine v_load (v := (2, 85)) (hi_X2_becomeLike_40 hT) rfl rfl ?_
  refine v_getR (c := 86) (r := 85) (hi_X2_becomeLike_41 hT) rfl rfl rfl ?_
  refine v_push (0) (hi_X2_becomeLike_44 hT) rfl ?_
  refine v_load (v := (2, 24)) (hi_X2_becomeLike_45 hT) rfl rfl ?_
  refine v_getR (c := 25) (r := 24) (hi_X2_becomeLike_46 hT) rfl rfl rfl ?_
  refine v_push (0) (hi_X2_becomeLike_49 hT) rfl ?_
  refine v_push (48) (hi_X2_becomeLike_50 hT) rfl ?_
  refine v_copy (r0 := 86) (r1 := 25) (hi_X2_becomeLike_52 hT) rfl rfl rfl rfl (fun hd10 hd11 hd12 hd13 hd14 => ?_)
  refine v_load (v := (2, 85)) (hi_X2_becomeLike_55 hT) rfl rfl ?_
  refine v_getR (c := 87) (r := 85) (hi_X2_becomeLike_56 hT) rfl rfl rfl ?_
  refine v_push (0) (hi_X2_becomeLike_59 hT) rfl ?_
  refine v_load (v := (2, 24)) (hi_X2_becomeLike_60 hT) rfl rfl ?_
  refine v_getR (c := 26) (r := 24) (hi_X2_becomeLike_61 hT) rfl rfl rfl ?_
  refine v_push (0) (hi_X2_becomeLike_64 hT) rfl ?_
  refine v_push (48) (hi_X2_becomeLike_65 hT) rfl ?_
  refine v_copy (r0 := 87) (r1 := 26) (hi_X2_becomeLike_67 hT) rfl rfl rfl rfl (fun hd15 hd16 hd17 hd18 hd19 => ?_)
  refine v_load (v := (2, 85)) (hi_X2_becomeLike_70 hT) rfl rfl ?_
  refine v_getR (c := 88) (r := 85) (hi_X2_becomeLike_71 hT) rfl rfl rfl ?_
  refine v_push (0) (hi_X2_becomeLike_74 hT) rfl ?_
  refine v_load (v := (2, 24)) (hi_X2_becomeLike_75 hT) rfl rfl ?_
  refine v_getR (c := 27) (r := 24) (hi_X2_becomeLike_76 hT) rfl rfl rfl ?_
  refine v_push (0) (hi_X2_becomeLike_79 hT) rfl ?_
  refine v_push (144) (hi_X2_becomeLike_80 hT) rfl ?_
  refine v_copy (r0 := 88) (r1 := 27) (hi_X2_becomeLike_83 hT) rfl rfl rfl rfl (fun hd20 hd21 hd22 hd23 hd24 => ?_)
  refine v_load (v := (2, 85)) (hi_X2_becomeLike_86 hT) rfl rfl ?_
  refine v_getR (c := 89) (r := 85) (hi_X2_becomeLike_87 hT) rfl rfl rfl ?_
  refine v_push (0) (hi_X2_becomeLike_90 hT) rfl ?_
  refine v_load (v := (2, 24)) (hi_X2_becomeLike_91 hT) rfl rfl ?_
  refine v_getR (c := 28) (r := 24) (hi_X2_becomeLike_92 hT) rfl rfl rfl ?_
  refine v_push (0) (hi_X2_becomeLike_95 hT) rfl ?_
  refine v_push (6) (hi_X2_becomeLike_96 hT) rfl ?_
  refine v_copy (r0 := 89) (r1 := 28) (hi_X2_becomeLike_98 hT) rfl rfl rfl rfl (fun hd25 hd26 hd27 hd28 hd29 => ?_)
  refine v_load (v := (2, 85)) (hi_X2_becomeLike_101 hT) rfl rfl ?_
  refine v_getR (c := 90) (r := 85) (hi_X2_becomeLike_102 hT) rfl rfl rfl ?_
  refine v_push (0) (hi_X2_becomeLike_105 hT) rfl ?_
  refine v_load (v := (2, 24)) (hi_X2_becomeLike_106 hT) rfl rfl ?_
  refine v_getR (c := 29) (r := 24) (hi_X2_becomeLike_107 hT) rfl rfl rfl ?_
  refine v_push (0) (hi_X2_becomeLike_110 hT) rfl ?_
  refine v_push (6) (hi_X2_becomeLike_111 hT) rfl ?_
  refine v_copy (r0 := 90) (r1 := 29) (hi_X2_becomeLike_113 hT) rfl rfl rfl rfl (fun hd30 hd31 hd32 hd33 hd34 => ?_)
  refine v_load (v := (2, 85)) (hi_X2_becomeLike_116 hT) rfl rfl ?_
  refine v_getR (c := 91) (r := 85) (hi_X2_becomeLike_117 hT) rfl rfl rfl ?_
  refine v_push (0) (hi_X2_becomeLike_120 hT) rfl ?_
  refine v_load (v := (2, 24)) (hi_X2_becomeLike_121 hT) rfl rfl ?_
  refine v_getR (c := 30) (r := 24) (hi_X2_becomeLike_122 hT) rfl rfl rfl ?_
  refine v_push (0) (hi_X2_becomeLike_125 hT) rfl ?_
  refine v_push (6) (hi_X2_becomeLike_126 hT) rfl ?_
  refine v_copy (r0 := 91) (r1 := 30) (hi_X2_becomeLike_128 hT) rfl rfl rfl rfl (fun hd35 hd36 hd37 hd38 hd39 => ?_)
  refine v_load (v := (2, 85)) (hi_X2_becomeLike_131 hT) rfl rfl ?_
  refine v_getR (c := 92) (r := 85) (hi_X2_becomeLike_132 hT) rfl rfl rfl ?_
  refine v_push (0) (hi_X2_becomeLike_135 hT) rfl ?_
  refine v_load (v := (2, 24)) (hi_X2_becomeLike_136 hT) rfl rfl ?_
  refine v_getR (c := 31) (r := 24) (hi_X2_becomeLike_137 hT) rfl rfl rfl ?_
  refine v_push (0) (hi_X2_becomeLike_140 hT) rfl ?_
  refine v_push (6) (hi_X2_becomeLike_141 hT) rfl ?_
  refine v_copy (r0 := 92) (r1 := 31) (hi_X2_becomeLike_143 hT) rfl rfl rfl rfl (fun hd40 hd41 hd42 hd43 hd44 => ?_)
  refine v_load (v := (2, 85)) (hi_X2_becomeLike_146 hT) rfl rfl ?_
  refine v_getR (c := 93) (r := 85) (hi_X2_becomeLike_147 hT) rfl rfl rfl ?_
  refine v_push (0) (hi_X2_becomeLike_150 hT) rfl ?_
  refine v_load (v := (2, 24)) (hi_X2_becomeLike_151 hT) rfl rfl ?_
  refine v_getR (c := 32) (r := 24) (hi_X2_becomeLike_152 hT) rfl rfl rfl ?_
  refine v_push (0) (hi_X2_becomeLike_155 hT) rfl ?_
  refine v_push (6) (hi_X2_becomeLike_156 hT) rfl ?_
  refine v_copy (r0 := 93) (r1 := 32) (hi_X2_becomeLike_158 hT) rfl rfl rfl rfl (fun hd45 hd46 hd47 hd48 hd49 => ?_)
  refine v_load (v := (2, 85)) (hi_X2_becomeLike_161 hT) rfl rfl ?_
  refine v_getR (c := 94) (r := 85) (hi_X2_becomeLike_162 hT) rfl rfl rfl ?_
  refine v_push (0) (hi_X2_becomeLike_165 hT) rfl ?_
  refine v_load (v := (2, 24)) (hi_X2_becomeLike_166 hT) rfl rfl ?_
  refine v_getR (c := 33) (r := 24) (hi_X2_becomeLike_167 hT) rfl rfl rfl ?_
  refine v_push (0) (hi_X2_becomeLike_170 hT) rfl ?_
  refine v_push (6) (hi_X2_becomeLike_171 hT) rfl ?_
  refine v_copy (r0 := 94) (r1 := 33) (hi_X2_becomeLike_173 hT) rfl rfl rfl rfl (fun hd50 hd51 hd52 hd53 hd54 => ?_)
  refine v_load (v := (2, 24)) (hi_X2_becomeLike_176 hT) rfl rfl ?_
  refine v_getR (c := 34) (r := 24) (hi_X2_becomeLike_177 hT) rfl rfl rfl ?_
  refine v_load (v := (2, 85)) (hi_X2_becomeLike_180 hT) rfl rfl ?_
  refine v_getR (c := 95) (r := 85) (hi_X2_becomeLike_181 hT) rfl rfl rfl ?_
  refine v_call (w := 2) [some (2, 34), some (2, 95)] hO (hi_X2_becomeLike_184 hT) rfl rfl ?_
  refine v_load (v := (2, 34)) (hi_X5_becomeLike_0 hT) rfl rfl ?_
  refine v_load (v := (2, 95)) (hi_X5_becomeLike_1 hT) rfl rfl ?_
  refine v_getf (v := (0, (h 95 0).2)) (r := 95) (hi_X5_becomeLike_2 hT) rfl rfl (fun hv_ => Eq.trans (Eq.trans (vcopy_ne (fun c => absurd c.1 (by decide))) (Eq.trans (vcopy_ne (fun c => absurd c.1 (by decide))) (Eq.trans (vcopy_ne (fun c => absurd c.1 (by decide))) (Eq.trans (vcopy_ne (fun c => absurd c.1 (by decide))) (Eq.trans (vcopy_ne (fun c => absurd c.1 (by decide))) (Eq.trans (vcopy_ne (fun c => absurd c.1 (by decide))) (Eq.trans (vcopy_ne (fun c => absurd c.1 (by decide))) (Eq.trans (vcopy_ne (fun c => absurd c.1 (by decide))) (Eq.trans (vcopy_ne (fun c => absurd c.1 (by decide))) (Eq.trans (zset_ne (fun c => absurd c.1 (by decide))) (Eq.trans (zset_ne (fun c => absurd c.1 (by decide))) (Eq.trans (zset_ne (fun c => absurd c.1 (by decide))) (Eq.trans (zset_ne (fun c => absurd c.1 (by decide))) (Eq.trans (zset_ne (fun c => absurd c.1 (by decide))) (zset_ne (fun c => absurd c.1 (by decide))))))))))))))))) (hv0.at rfl)) ?_
  refine v_putf (r := 34) hO (hi_X5_becomeLike_5 hT) rfl (fun hf55 => ?_)
  refine v_load (v := (2, 34)) (hi_X5_becomeLike_8 hT) rfl rfl ?_
  refine v_load (v := (2, 95)) (hi_X5_becomeLike_9 hT) rfl rfl ?_
  refine v_getf (v := (0, (h 95 1).2)) (r := 95) (hi_X5_becomeLike_10 hT) rfl rfl (fun hv_ => Eq.trans (Eq.trans (zset_ne (fun c => absurd c.1 (by decide))) (Eq.trans (vcopy_ne (fun c => absurd c.1 (by decide))) (Eq.trans (vcopy_ne (fun c => absurd c.1 (by decide))) (Eq.trans (vcopy_ne (fun c => absurd c.1 (by decide))) (Eq.trans (vcopy_ne (fun c => absurd c.1 (by decide))) (Eq.trans (vcopy_ne (fun c => absurd c.1 (by decide))) (Eq.trans (vcopy_ne (fun c => absurd c.1 (by decide))) (Eq.trans (vcopy_ne (fun c => absurd c.1 (by decide))) (Eq.trans (vcopy_ne (fun c => absurd c.1 (by decide))) (Eq.trans (vcopy_ne (fun c => absurd c.1 (by decide))) (Eq.trans (zset_ne (fun c => absurd c.1 (by decide))) (Eq.trans (zset_ne (fun c => absurd c.1 (by decide))) (Eq.trans (zset_ne (fun c => absurd c.1 (by decide))) (Eq.trans (zset_ne (fun c => absurd c.1 (by decide))) (Eq.trans (zset_ne (fun c => absurd c.1 (by decide))) (zset_ne (fun c => absurd c.1 (by decide)))))))))))))))))) (hv0.at rfl)) ?_
  refine v_putf (r := 34) hO (hi_X5_becomeLike_13 hT) rfl (fun hf56 => ?_)
  refine v_load (v := (2, 95)) (hi_X5_becomeLike_16 hT) rfl rfl ?_
  refine v_getR (c := 96) (r := 95) (hi_X5_becomeLike_17 hT) rfl rfl rfl ?_
  refine v_push (0) (hi_X5_becomeLike_20 hT) rfl ?_
  refine v_load (v := (2, 34)) (hi_X5_becomeLike_21 hT) rfl rfl ?_
  refine v_getR (c := 35) (r := 34) (hi_X5_becomeLike_22 hT) rfl rfl rfl ?_
  refine v_push (0) (hi_X5_becomeLike_25 hT) rfl ?_
  refine v_push (60) (hi_X5_becomeLike_26 hT) rfl ?_
  refine v_copy (r0 := 96) (r1 := 35) (hi_X5_becomeLike_28 hT) rfl rfl rfl rfl (fun hd57 hd58 hd59 hd60 hd61 => ?_)
  refine v_load (v := (2, 95)) (hi_X5_becomeLike_31 hT) rfl rfl ?_
  refine v_getR (c := 97) (r := 95) (hi_X5_becomeLike_32 hT) rfl rfl rfl ?_
  refine v_push (0) (hi_X5_becomeLike_35 hT) rfl ?_
  refine v_load (v := (2, 34)) (hi_X5_becomeLike_36 hT) rfl rfl ?_
  refine v_getR (c := 36) (r := 34) (hi_X5_becomeLike_37 hT) rfl rfl rfl ?_
  refine v_push (0) (hi_X5_becomeLike_40 hT) rfl ?_
  refine v_push (60) (hi_X5_becomeLike_41 hT) rfl ?_
  refine v_copy (r0 := 97) (r1 := 36) (hi_X5_becomeLike_43 hT) rfl rfl rfl rfl (fun hd62 hd63 hd64 hd65 hd66 => ?_)
  refine v_load (v := (2, 95)) (hi_X5_becomeLike_46 hT) rfl rfl ?_
  refine v_getR (c := 98) (r := 95) (hi_X5_becomeLike_47 hT) rfl rfl rfl ?_
  refine v_push (0) (hi_X5_becomeLike_50 hT) rfl ?_
  refine v_load (v := (2, 34)) (hi_X5_becomeLike_51 hT) rfl rfl ?_
  refine v_getR (c := 37) (r := 34) (hi_X5_becomeLike_52 hT) rfl rfl rfl ?_
  refine v_push (0) (hi_X5_becomeLike_55 hT) rfl ?_
  refine v_push (60) (hi_X5_becomeLike_56 hT) rfl ?_
  refine v_copy (r0 := 98) (r1 := 37) (hi_X5_becomeLike_58 hT) rfl rfl rfl rfl (fun hd67 hd68 hd69 hd70 hd71 => ?_)
  refine v_load (v := (2, 95)) (hi_X5_becomeLike_61 hT) rfl rfl ?_
  refine v_getR (c := 99) (r := 95) (hi_X5_becomeLike_62 hT) rfl rfl rfl ?_
  refine v_push (0) (hi_X5_becomeLike_65 hT) rfl ?_
  refine v_load (v := (2, 34)) (hi_X5_becomeLike_66 hT) rfl rfl ?_
  refine v_getR (c := 38) (r := 34) (hi_X5_becomeLike_67 hT) rfl rfl rfl ?_
  refine v_push (0) (hi_X5_becomeLike_70 hT) rfl ?_
  refine v_push (60) (hi_X5_becomeLike_71 hT) rfl ?_
  refine v_copy (r0 := 99) (r1 := 38) (hi_X5_becomeLike_73 hT) rfl rfl rfl rfl (fun hd72 hd73 hd74 hd75 hd76 => ?_)
  refine v_ret0 (hi_X5_becomeLike_76 hT) ?_
  show vP D T N 25 187 (zcopy (zcopy (zcopy (zcopy (zset (zset (zcopy (zcopy (zcopy (zcopy (zcopy (zcopy (zcopy (zcopy (zcopy (zset (zset (zset (zset (zset (zset h 0 10 (0, 2)) 24 0 (0, (h 85 0).2)) 24 1 (0, (h 85 1).2)) 24 2 (0, (h 85 2).2)) 24 3 (0, (h 85 3).2)) 24 4 (0, (h 85 4).2)) 86 0 25 0 48) 87 0 26 0 48) 88 0 27 0 144) 89 0 28 0 6) 90 0 29 0 6) 91 0 30 0 6) 92 0 31 0 6) 93 0 32 0 6) 94 0 33 0 6) 34 0 (0, (h 95 0).2)) 34 1 (0, (h 95 1).2)) 96 0 35 0 60) 97 0 36 0 60) 98 0 37 0 60) 99 0 38 0 60) [some (2, 24), some (2, 85)] [] _
  refine v_ret0 (hi_X2_becomeLike_187 hT) ?_
  show vP D T N 144 40 (zcopy (zcopy (zcopy (zcopy (zset (zset (zcopy (zcopy (zcopy (zcopy (zcopy (zcopy (zcopy (zcopy (zcopy (zset (zset (zset (zset (zset (zset h 0 10 (0, 2)) 24 0 (0, (h 85 0).2)) 24 1 (0, (h 85 1).2)) 24 2 (0, (h 85 2).2)) 24 3 (0, (h 85 3).2)) 24 4 (0, (h 85 4).2)) 86 0 25 0 48) 87 0 26 0 48) 88 0 27 0 144) 89 0 28 0 6) 90 0 29 0 6) 91 0 30 0 6) 92 0 31 0 6) 93 0 32 0 6) 94 0 33 0 6) 34 0 (0, (h 95 0).2)) 34 1 (0, (h 95 1).2)) 96 0 35 0 60) 97 0 36 0 60) 98 0 37 0 60) 99 0 38 0 60) [some (2, 0)] [] _
  refine v_load (v := (2, 0)) (hi_X11_back_40 hT) rfl rfl ?_
  refine v_load (v := (2, 0)) (hi_X11_back_41 hT) rfl rfl ?_
  refine v_getf (v := (0, 2)) (r := 0) (hi_X11_back_42 hT) rfl rfl (fun _ => Eq.trans (Eq.trans (vcopy_ne (fun c => absurd c.1 (by decide))) (Eq.trans (vcopy_ne (fun c => absurd c.1 (by decide))) (Eq.trans (vcopy_ne (fun c => absurd c.1 (by decide))) (Eq.trans (vcopy_ne (fun c => absurd c.1 (by decide))) (Eq.trans (zset_ne (fun c => absurd c.1 (by decide))) (Eq.trans (zset_ne (fun c => absurd c.1 (by decide))) (Eq.trans (vcopy_ne (fun c => absurd c.1 (by decide))) (Eq.trans (vcopy_ne (fun c => absurd c.1 (by decide))) (Eq.trans (vcopy_ne (fun c => absurd c.1 (by decide))) (Eq.trans (vcopy_ne (fun c => absurd c.1 (by decide))) (Eq.trans (vcopy_ne (fun c => absurd c.1 (by decide))) (Eq.trans (vcopy_ne (fun c => absurd c.1 (by decide))) (Eq.trans (vcopy_ne (fun c => absurd c.1 (by decide))) (Eq.trans (vcopy_ne (fun c => absurd c.1 (by decide))) (Eq.trans (vcopy_ne (fun c => absurd c.1 (by decide))) (Eq.trans (zset_ne (fun c => absurd c.1 (by decide))) (Eq.trans (zset_ne (fun c => absurd c.1 (by decide))) (Eq.trans (zset_ne (fun c => absurd c.1 (by decide))) (Eq.trans (zset_ne (fun c => absurd c.1 (by decide))) (zset_ne (fun c => absurd c.1 (by decide)))))))))))))))))))))) zset_same) ?_
  refine v_call (w := 2) [some (2, 0), some (0, 2)] hO (hi_X11_back_45 hT) rfl rfl ?_
  refine v_load (v := (2, 0)) (hi_X11_answer_0 hT) rfl rfl ?_
  refine v_push (0) (hi_X11_answer_1 hT) rfl ?_
  refine v_putf (r := 0) hO (hi_X11_answer_2 hT) rfl (fun hf77 => ?_)
  refine v_load (v := (0, 2)) (hi_X11_answer_5 hT) rfl rfl ?_
  refine v_ret (hi_X11_answer_6 hT) (Or.inl rfl) ?_
  show vP D T N 144 48 (zset (zcopy (zcopy (zcopy (zcopy (zset (zset (zcopy (zcopy (zcopy (zcopy (zcopy (zcopy (zcopy (zcopy (zcopy (zset (zset (zset (zset (zset (zset h 0 10 (0, 2)) 24 0 (0, (h 85 0).2)) 24 1 (0, (h 85 1).2)) 24 2 (0, (h 85 2).2)) 24 3 (0, (h 85 3).2)) 24 4 (0, (h 85 4).2)) 86 0 25 0 48) 87 0 26 0 48) 88 0 27 0 144) 89 0 28 0 6) 90 0 29 0 6) 91 0 30 0 6) 92 0 31 0 6) 93 0 32 0 6) 94 0 33 0 6) 34 0 (0, (h 95 0).2)) 34 1 (0, (h 95 1).2)) 96 0 35 0 60) 97 0 36 0 60) 98 0 37 0 60) 99 0 38 0 60) 0 0 (0, 0)) [some (2, 0)] [(0, 2)] _
  refine v_ret (hi_X11_back_48 hT) (Or.inl rfl) ?_
  exact k0 
theorem qc_mark_39_0 {D : zD} {T : zT} (hT : hTab T) (hO : vOK T) {N : Nat} {h : zH} {Q : zR → Prop}  (hv0 : zHv h) (e7 : h 0 7 = (2, 39)) (em : h 0 10 = (0, 0))
    (k0 : Q (zset (zset (zcopy (zcopy (zcopy (zcopy (zset (zset (zcopy (zcopy (zcopy (zcopy (zcopy (zcopy (zcopy (zcopy (zcopy (zset (zset (zset (zset (zset h 55 0 (0, (h 39 0).2)) 55 1 (0, (h 39 1).2)) 55 2 (0, (h 39 2).2)) 55 3 (0, (h 39 3).2)) 55 4 (0, (h 39 4).2)) 40 0 56 0 48) 41 0 57 0 48) 42 0 58 0 144) 43 0 59 0 6) 44 0 60 0 6) 45 0 61 0 6) 46 0 62 0 6) 47 0 63 0 6) 48 0 64 0 6) 65 0 (0, (h 49 0).2)) 65 1 (0, (h 49 1).2)) 50 0 66 0 60) 51 0 67 0 60) 52 0 68 0 60) 53 0 69 0 60) 0 10 (0, 1)) 0 0 (0, 0), some (0, 1))) :
    vP D T N 165 0 h [some (2, 0)] [] Q := by
  refine v_load (v := (2, 0)) (hi_X11_mark_0 hT) rfl rfl ?_
  refine v_getf (v := (0, 0)) (r := 0) (hi_X11_mark_1 hT) rfl rfl (fun _ => em) ?_
  refine v_push (3) (hi_X11_mark_4 hT) rfl ?_
  refine v_ic (hi_X11_mark_5 hT) (fun _ => ?_) (fun hc1 => absurd (show (0 : Int) < 3 from (by decide)) hc1)
  refine v_load (v := (2, 0)) (hi_X11_mark_15 hT) rfl rfl ?_
  refine v_getR (c := 54) (r := 0) (hi_X11_mark_16 hT) rfl rfl rfl ?_
  refine v_load (v := (2, 0)) (hi_X11_mark_19 hT) rfl rfl ?_
  refine v_getf (v := (0, 0)) (r := 0) (hi_X11_mark_20 hT) rfl rfl (fun _ => em) ?_
  refine v_aldV (v := (2, 55)) (r := 54) (hi_X11_mark_23 hT) rfl rfl (fun hv _ _ => hv.ref rfl) (fun ha2 hb3 => ?_)
  refine v_load (v := (2, 0)) (hi_X11_mark_24 hT) rfl rfl ?_
  refine v_getf (v := (2, 39)) (r := 0) (hi_X11_mark_25 hT) rfl rfl (fun _ => e7) ?_
  refine v_call (w := 2) [some (2, 55), some (2, 39)] hO (hi_X11_mark_28 hT) rfl rfl ?_
  refine v_load (v := (2, 55)) (hi_X2_becomeLike_0 hT) rfl rfl ?_
  refine v_load (v := (2, 39)) (hi_X2_becomeLike_1 hT) rfl rfl ?_
  refine v_getI (t := 0) (r := 39) (hi_X2_becomeLike_2 hT) rfl rfl rfl ?_
  refine v_putf (r := 55) hO (hi_X2_becomeLike_5 hT) rfl (fun hf4 => ?_)
  refine v_load (v := (2, 55)) (hi_X2_becomeLike_8 hT) rfl rfl ?_
  refine v_load (v := (2, 39)) (hi_X2_becomeLike_9 hT) rfl rfl ?_
  refine v_getf (v := (0, (h 39 1).2)) (r := 39) (hi_X2_becomeLike_10 hT) rfl rfl (fun hv_ => Eq.trans (zset_ne (fun c => absurd c.1 (by decide))) (hv0.at rfl)) ?_
  refine v_putf (r := 55) hO (hi_X2_becomeLike_13 hT) rfl (fun hf5 => ?_)
  refine v_load (v := (2, 55)) (hi_X2_becomeLike_16 hT) rfl rfl ?_
  refine v_load (v := (2, 39)) (hi_X2_becomeLike_17 hT) rfl rfl ?_
  refine v_getf (v := (0, (h 39 2).2)) (r := 39) (hi_X2_becomeLike_18 hT) rfl rfl (fun hv_ => Eq.trans (Eq.trans (zset_ne (fun c => absurd c.1 (by decide))) (zset_ne (fun c => absurd c.1 (by decide)))) (hv0.at rfl)) ?_
  refine v_putf (r := 55) hO (hi_X2_becomeLike_21 hT) rfl (fun hf6 => ?_)
  refine v_load (v := (2, 55)) (hi_X2_becomeLike_24 hT) rfl rfl ?_
  refine v_load (v := (2, 39)) (hi_X2_becomeLike_25 hT) rfl rfl ?_
  refine v_getf (v := (0, (h 39 3).2)) (r := 39) (hi_X2_becomeLike_26 hT) rfl rfl (fun hv_ => Eq.trans (Eq.trans (zset_ne (fun c => absurd c.1 (by decide))) (Eq.trans (zset_ne (fun c => absurd c.1 (by decide))) (zset_ne (fun c => absurd c.1 (by decide))))) (hv0.at rfl)) ?_
  refine v_putf (r := 55) hO (hi_X2_becomeLike_29 hT) rfl (fun hf7 => ?_)
  refine v_load (v := (2, 55)) (hi_X2_becomeLike_32 hT) rfl rfl ?_
  refine v_load (v := (2, 39)) (hi_X2_becomeLike_33 hT) rfl rfl ?_
  refine v_getf (v := (0, (h 39 4).2)) (r := 39) (hi_X2_becomeLike_34 hT) rfl rfl (fun hv_ => Eq.trans (Eq.trans (zset_ne (fun c => absurd c.1 (by decide))) (Eq.trans (zset_ne (fun c => absurd c.1 (by decide))) (Eq.trans (zset_ne (fun c => absurd c.1 (by decide))) (zset_ne (fun c => absurd c.1 (by decide)))))) (hv0.at rfl)) ?_
  refine v_putf (r := 55) hO (hi_X2_becomeLike_37 hT) rfl (fun hf8 => ?_)
  refine v_load (v := (2, 39)) (hi_X2_becomeLike_40 hT) rfl rfl ?_
  refine v_getR (c := 40) (r := 39) (hi_X2_becomeLike_41 hT) rfl rfl rfl ?_
  refine v_push (0) (hi_X2_becomeLike_44 hT) rfl ?_
  refine v_load (v := (2, 55)) (hi_X2_becomeLike_45 hT) rfl rfl ?_
  refine v_getR (c := 56) (r := 55) (hi_X2_becomeLike_46 hT) rfl rfl rfl ?_
  refine v_push (0) (hi_X2_becomeLike_49 hT) rfl ?_
  refine v_push (48) (hi_X2_becomeLike_50 hT) rfl ?_
  refine v_copy (r0 := 40) (r1 := 56) (hi_X2_becomeLike_52 hT) rfl rfl rfl rfl (fun hd9 hd10 hd11 hd12 hd13 => ?_)
  refine v_load (v := (2, 39)) (hi_X2_becomeLike_55 hT) rfl rfl ?_
  refine v_getR (c := 41) (r := 39) (hi_X2_becomeLike_56 hT) rfl rfl rfl ?_
  refine v_push (0) (hi_X2_becomeLike_59 hT) rfl ?_
  refine v_load (v := (2, 55)) (hi_X2_becomeLike_60 hT) rfl rfl ?_
  refine v_getR (c := 57) (r := 55) (hi_X2_becomeLike_61 hT) rfl rfl rfl ?_
  refine v_push (0) (hi_X2_becomeLike_64 hT) rfl ?_
  refine v_push (48) (hi_X2_becomeLike_65 hT) rfl ?_
  refine v_copy (r0 := 41) (r1 := 57) (hi_X2_becomeLike_67 hT) rfl rfl rfl rfl (fun hd14 hd15 hd16 hd17 hd18 => ?_)
  refine v_load (v := (2, 39)) (hi_X2_becomeLike_70 hT) rfl rfl ?_
  refine v_getR (c := 42) (r := 39) (hi_X2_becomeLike_71 hT) rfl rfl rfl ?_
  refine v_push (0) (hi_X2_becomeLike_74 hT) rfl ?_
  refine v_load (v := (2, 55)) (hi_X2_becomeLike_75 hT) rfl rfl ?_
  refine v_getR (c := 58) (r := 55) (hi_X2_becomeLike_76 hT) rfl rfl rfl ?_
  refine v_push (0) (hi_X2_becomeLike_79 hT) rfl ?_
  refine v_push (144) (hi_X2_becomeLike_80 hT) rfl ?_
  refine v_copy (r0 := 42) (r1 := 58) (hi_X2_becomeLike_83 hT) rfl rfl rfl rfl (fun hd19 hd20 hd21 hd22 hd23 => ?_)
  refine v_load (v := (2, 39)) (hi_X2_becomeLike_86 hT) rfl rfl ?_
  refine v_getR (c := 43) (r := 39) (hi_X2_becomeLike_87 hT) rfl rfl rfl ?_
  refine v_push (0) (hi_X2_becomeLike_90 hT) rfl ?_
  refine v_load (v := (2, 55)) (hi_X2_becomeLike_91 hT) rfl rfl ?_
  refine v_getR (c := 59) (r := 55) (hi_X2_becomeLike_92 hT) rfl rfl rfl ?_
  refine v_push (0) (hi_X2_becomeLike_95 hT) rfl ?_
  refine v_push (6) (hi_X2_becomeLike_96 hT) rfl ?_
  refine v_copy (r0 := 43) (r1 := 59) (hi_X2_becomeLike_98 hT) rfl rfl rfl rfl (fun hd24 hd25 hd26 hd27 hd28 => ?_)
  refine v_load (v := (2, 39)) (hi_X2_becomeLike_101 hT) rfl rfl ?_
  refine v_getR (c := 44) (r := 39) (hi_X2_becomeLike_102 hT) rfl rfl rfl ?_
  refine v_push (0) (hi_X2_becomeLike_105 hT) rfl ?_
  refine v_load (v := (2, 55)) (hi_X2_becomeLike_106 hT) rfl rfl ?_
  refine v_getR (c := 60) (r := 55) (hi_X2_becomeLike_107 hT) rfl rfl rfl ?_
  refine v_push (0) (hi_X2_becomeLike_110 hT) rfl ?_
  refine v_push (6) (hi_X2_becomeLike_111 hT) rfl ?_
  refine v_copy (r0 := 44) (r1 := 60) (hi_X2_becomeLike_113 hT) rfl rfl rfl rfl (fun hd29 hd30 hd31 hd32 hd33 => ?_)
  refine v_load (v := (2, 39)) (hi_X2_becomeLike_116 hT) rfl rfl ?_
  refine v_getR (c := 45) (r := 39) (hi_X2_becomeLike_117 hT) rfl rfl rfl ?_
  refine v_push (0) (hi_X2_becomeLike_120 hT) rfl ?_
  refine v_load (v := (2, 55)) (hi_X2_becomeLike_121 hT) rfl rfl ?_
  refine v_getR (c := 61) (r := 55) (hi_X2_becomeLike_122 hT) rfl rfl rfl ?_
  refine v_push (0) (hi_X2_becomeLike_125 hT) rfl ?_
  refine v_push (6) (hi_X2_becomeLike_126 hT) rfl ?_
  refine v_copy (r0 := 45) (r1 := 61) (hi_X2_becomeLike_128 hT) rfl rfl rfl rfl (fun hd34 hd35 hd36 hd37 hd38 => ?_)
  refine v_load (v := (2, 39)) (hi_X2_becomeLike_131 hT) rfl rfl ?_
  refine v_getR (c := 46) (r := 39) (hi_X2_becomeLike_132 hT) rfl rfl rfl ?_
  refine v_push (0) (hi_X2_becomeLike_135 hT) rfl ?_
  refine v_load (v := (2, 55)) (hi_X2_becomeLike_136 hT) rfl rfl ?_
  refine v_getR (c := 62) (r := 55) (hi_X2_becomeLike_137 hT) rfl rfl rfl ?_
  refine v_push (0) (hi_X2_becomeLike_140 hT) rfl ?_
  refine v_push (6) (hi_X2_becomeLike_141 hT) rfl ?_
  refine v_copy (r0 := 46) (r1 := 62) (hi_X2_becomeLike_143 hT) rfl rfl rfl rfl (fun hd39 hd40 hd41 hd42 hd43 => ?_)
  refine v_load (v := (2, 39)) (hi_X2_becomeLike_146 hT) rfl rfl ?_
  refine v_getR (c := 47) (r := 39) (hi_X2_becomeLike_147 hT) rfl rfl rfl ?_
  refine v_push (0) (hi_X2_becomeLike_150 hT) rfl ?_
  refine v_load (v := (2, 55)) (hi_X2_becomeLike_151 hT) rfl rfl ?_
  refine v_getR (c := 63) (r := 55) (hi_X2_becomeLike_152 hT) rfl rfl rfl ?_
  refine v_push (0) (hi_X2_becomeLike_155 hT) rfl ?_
  refine v_push (6) (hi_X2_becomeLike_156 hT) rfl ?_
  refine v_copy (r0 := 47) (r1 := 63) (hi_X2_becomeLike_158 hT) rfl rfl rfl rfl (fun hd44 hd45 hd46 hd47 hd48 => ?_)
  refine v_load (v := (2, 39)) (hi_X2_becomeLike_161 hT) rfl rfl ?_
  refine v_getR (c := 48) (r := 39) (hi_X2_becomeLike_162 hT) rfl rfl rfl ?_
  refine v_push (0) (hi_X2_becomeLike_165 hT) rfl ?_
  refine v_load (v := (2, 55)) (hi_X2_becomeLike_166 hT) rfl rfl ?_
  refine v_getR (c := 64) (r := 55) (hi_X2_becomeLike_167 hT) rfl rfl rfl ?_
  refine v_push (0) (hi_X2_becomeLike_170 hT) rfl ?_
  refine v_push (6) (hi_X2_becomeLike_171 hT) rfl ?_
  refine v_copy (r0 := 48) (r1 := 64) (hi_X2_becomeLike_173 hT) rfl rfl rfl rfl (fun hd49 hd50 hd51 hd52 hd53 => ?_)
  refine v_load (v := (2, 55)) (hi_X2_becomeLike_176 hT) rfl rfl ?_
  refine v_getR (c := 65) (r := 55) (hi_X2_becomeLike_177 hT) rfl rfl rfl ?_
  refine v_load (v := (2, 39)) (hi_X2_becomeLike_180 hT) rfl rfl ?_
  refine v_getR (c := 49) (r := 39) (hi_X2_becomeLike_181 hT) rfl rfl rfl ?_
  refine v_call (w := 2) [some (2, 65), some (2, 49)] hO (hi_X2_becomeLike_184 hT) rfl rfl ?_
  refine v_load (v := (2, 65)) (hi_X5_becomeLike_0 hT) rfl rfl ?_
  refine v_load (v := (2, 49)) (hi_X5_becomeLike_1 hT) rfl rfl ?_
  refine v_getf (v := (0, (h 49 0).2)) (r := 49) (hi_X5_becomeLike_2 hT) rfl rfl (fun hv_ => Eq.trans (Eq.trans (vcopy_ne (fun c => absurd c.1 (by decide))) (Eq.trans (vcopy_ne (fun c => absurd c.1 (by decide))) (Eq.trans (vcopy_ne (fun c => absurd c.1 (by decide))) (Eq.trans (vcopy_ne (fun c => absurd c.1 (by decide))) (Eq.trans (vcopy_ne (fun c => absurd c.1 (by decide))) (Eq.trans (vcopy_ne (fun c => absurd c.1 (by decide))) (Eq.trans (vcopy_ne (fun c => absurd c.1 (by decide))) (Eq.trans (vcopy_ne (fun c => absurd c.1 (by decide))) (Eq.trans (vcopy_ne (fun c => absurd c.1 (by decide))) (Eq.trans (zset_ne (fun c => absurd c.1 (by decide))) (Eq.trans (zset_ne (fun c => absurd c.1 (by decide))) (Eq.trans (zset_ne (fun c => absurd c.1 (by decide))) (Eq.trans (zset_ne (fun c => absurd c.1 (by decide))) (zset_ne (fun c => absurd c.1 (by decide)))))))))))))))) (hv0.at rfl)) ?_
  refine v_putf (r := 65) hO (hi_X5_becomeLike_5 hT) rfl (fun hf54 => ?_)
  refine v_load (v := (2, 65)) (hi_X5_becomeLike_8 hT) rfl rfl ?_
  refine v_load (v := (2, 49)) (hi_X5_becomeLike_9 hT) rfl rfl ?_
  refine v_getf (v := (0, (h 49 1).2)) (r := 49) (hi_X5_becomeLike_10 hT) rfl rfl (fun hv_ => Eq.trans (Eq.trans (zset_ne (fun c => absurd c.1 (by decide))) (Eq.trans (vcopy_ne (fun c => absurd c.1 (by decide))) (Eq.trans (vcopy_ne (fun c => absurd c.1 (by decide))) (Eq.trans (vcopy_ne (fun c => absurd c.1 (by decide))) (Eq.trans (vcopy_ne (fun c => absurd c.1 (by decide))) (Eq.trans (vcopy_ne (fun c => absurd c.1 (by decide))) (Eq.trans (vcopy_ne (fun c => absurd c.1 (by decide))) (Eq.trans (vcopy_ne (fun c => absurd c.1 (by decide))) (Eq.trans (vcopy_ne (fun c => absurd c.1 (by decide))) (Eq.trans (vcopy_ne (fun c => absurd c.1 (by decide))) (Eq.trans (zset_ne (fun c => absurd c.1 (by decide))) (Eq.trans (zset_ne (fun c => absurd c.1 (by decide))) (Eq.trans (zset_ne (fun c => absurd c.1 (by decide))) (Eq.trans (zset_ne (fun c => absurd c.1 (by decide))) (zset_ne (fun c => absurd c.1 (by decide))))))))))))))))) (hv0.at rfl)) ?_
  refine v_putf (r := 65) hO (hi_X5_becomeLike_13 hT) rfl (fun hf55 => ?_)
  refine v_load (v := (2, 49)) (hi_X5_becomeLike_16 hT) rfl rfl ?_
  refine v_getR (c := 50) (r := 49) (hi_X5_becomeLike_17 hT) rfl rfl rfl ?_
  refine v_push (0) (hi_X5_becomeLike_20 hT) rfl ?_
  refine v_load (v := (2, 65)) (hi_X5_becomeLike_21 hT) rfl rfl ?_
  refine v_getR (c := 66) (r := 65) (hi_X5_becomeLike_22 hT) rfl rfl rfl ?_
  refine v_push (0) (hi_X5_becomeLike_25 hT) rfl ?_
  refine v_push (60) (hi_X5_becomeLike_26 hT) rfl ?_
  refine v_copy (r0 := 50) (r1 := 66) (hi_X5_becomeLike_28 hT) rfl rfl rfl rfl (fun hd56 hd57 hd58 hd59 hd60 => ?_)
  refine v_load (v := (2, 49)) (hi_X5_becomeLike_31 hT) rfl rfl ?_
  refine v_getR (c := 51) (r := 49) (hi_X5_becomeLike_32 hT) rfl rfl rfl ?_
  refine v_push (0) (hi_X5_becomeLike_35 hT) rfl ?_
  refine v_load (v := (2, 65)) (hi_X5_becomeLike_36 hT) rfl rfl ?_
  refine v_getR (c := 67) (r := 65) (hi_X5_becomeLike_37 hT) rfl rfl rfl ?_
  refine v_push (0) (hi_X5_becomeLike_40 hT) rfl ?_
  refine v_push (60) (hi_X5_becomeLike_41 hT) rfl ?_
  refine v_copy (r0 := 51) (r1 := 67) (hi_X5_becomeLike_43 hT) rfl rfl rfl rfl (fun hd61 hd62 hd63 hd64 hd65 => ?_)
  refine v_load (v := (2, 49)) (hi_X5_becomeLike_46 hT) rfl rfl ?_
  refine v_getR (c := 52) (r := 49) (hi_X5_becomeLike_47 hT) rfl rfl rfl ?_
  refine v_push (0) (hi_X5_becomeLike_50 hT) rfl ?_
  refine v_load (v := (2, 65)) (hi_X5_becomeLike_51 hT) rfl rfl ?_
  refine v_getR (c := 68) (r := 65) (hi_X5_becomeLike_52 hT) rfl rfl rfl ?_
  refine v_push (0) (hi_X5_becomeLike_55 hT) rfl ?_
  refine v_push (60) (hi_X5_becomeLike_56 hT) rfl ?_
  refine v_copy (r0 := 52) (r1 := 68) (hi_X5_becomeLike_58 hT) rfl rfl rfl rfl (fun hd66 hd67 hd68 hd69 hd70 => ?_)
  refine v_load (v := (2, 49)) (hi_X5_becomeLike_61 hT) rfl rfl ?_
  refine v_getR (c := 53) (r := 49) (hi_X5_becomeLike_62 hT) rfl rfl rfl ?_
  refine v_push (0) (hi_X5_becomeLike_65 hT) rfl ?_
  refine v_load (v := (2, 65)) (hi_X5_becomeLike_66 hT) rfl rfl ?_
  refine v_getR (c := 69) (r := 65) (hi_X5_becomeLike_67 hT) rfl rfl rfl ?_
  refine v_push (0) (hi_X5_becomeLike_70 hT) rfl ?_
  refine v_push (60) (hi_X5_becomeLike_71 hT) rfl ?_
  refine v_copy (r0 := 53) (r1 := 69) (hi_X5_becomeLike_73 hT) rfl rfl rfl rfl (fun hd71 hd72 hd73 hd74 hd75 => ?_)
  refine v_ret0 (hi_X5_becomeLike_76 hT) ?_
  show vP D T N 25 187 (zcopy (zcopy (zcopy (zcopy (zset (zset (zcopy (zcopy (zcopy (zcopy (zcopy (zcopy (zcopy (zcopy (zcopy (zset (zset (zset (zset (zset h 55 0 (0, (h 39 0).2)) 55 1 (0, (h 39 1).2)) 55 2 (0, (h 39 2).2)) 55 3 (0, (h 39 3).2)) 55 4 (0, (h 39 4).2)) 40 0 56 0 48) 41 0 57 0 48) 42 0 58 0 144) 43 0 59 0 6) 44 0 60 0 6) 45 0 61 0 6) 46 0 62 0 6) 47 0 63 0 6) 48 0 64 0 6) 65 0 (0, (h 49 0).2)) 65 1 (0, (h 49 1).2)) 50 0 66 0 60) 51 0 67 0 60) 52 0 68 0 60) 53 0 69 0 60) [some (2, 55), some (2, 39)] [] _
  refine v_ret0 (hi_X2_becomeLike_187 hT) ?_
  show vP D T N 165 31 (zcopy (zcopy (zcopy (zcopy (zset (zset (zcopy (zcopy (zcopy (zcopy (zcopy (zcopy (zcopy (zcopy (zcopy (zset (zset (zset (zset (zset h 55 0 (0, (h 39 0).2)) 55 1 (0, (h 39 1).2)) 55 2 (0, (h 39 2).2)) 55 3 (0, (h 39 3).2)) 55 4 (0, (h 39 4).2)) 40 0 56 0 48) 41 0 57 0 48) 42 0 58 0 144) 43 0 59 0 6) 44 0 60 0 6) 45 0 61 0 6) 46 0 62 0 6) 47 0 63 0 6) 48 0 64 0 6) 65 0 (0, (h 49 0).2)) 65 1 (0, (h 49 1).2)) 50 0 66 0 60) 51 0 67 0 60) 52 0 68 0 60) 53 0 69 0 60) [some (2, 0)] [] _
  refine v_load (v := (2, 0)) (hi_X11_mark_31 hT) rfl rfl ?_
  refine v_dup (hi_X11_mark_32 hT) (Nat.ne_of_beq_eq_false rfl) ?_
  refine v_getf (v := (0, 0)) (r := 0) (hi_X11_mark_33 hT) rfl rfl (fun _ => Eq.trans (Eq.trans (vcopy_ne (fun c => absurd c.1 (by decide))) (Eq.trans (vcopy_ne (fun c => absurd c.1 (by decide))) (Eq.trans (vcopy_ne (fun c => absurd c.1 (by decide))) (Eq.trans (vcopy_ne (fun c => absurd c.1 (by decide))) (Eq.trans (zset_ne (fun c => absurd c.1 (by decide))) (Eq.trans (zset_ne (fun c => absurd c.1 (by decide))) (Eq.trans (vcopy_ne (fun c => absurd c.1 (by decide))) (Eq.trans (vcopy_ne (fun c => absurd c.1 (by decide))) (Eq.trans (vcopy_ne (fun c => absurd c.1 (by decide))) (Eq.trans (vcopy_ne (fun c => absurd c.1 (by decide))) (Eq.trans (vcopy_ne (fun c => absurd c.1 (by decide))) (Eq.trans (vcopy_ne (fun c => absurd c.1 (by decide))) (Eq.trans (vcopy_ne (fun c => absurd c.1 (by decide))) (Eq.trans (vcopy_ne (fun c => absurd c.1 (by decide))) (Eq.trans (vcopy_ne (fun c => absurd c.1 (by decide))) (Eq.trans (zset_ne (fun c => absurd c.1 (by decide))) (Eq.trans (zset_ne (fun c => absurd c.1 (by decide))) (Eq.trans (zset_ne (fun c => absurd c.1 (by decide))) (Eq.trans (zset_ne (fun c => absurd c.1 (by decide))) (zset_ne (fun c => absurd c.1 (by decide)))))))))))))))))))))) (em)) ?_
  refine v_push (1) (hi_X11_mark_36 hT) rfl ?_
  refine v_bin (w := 1) (hi_X11_mark_37 hT) (by decide) ?_
  refine v_putf (r := 0) hO (hi_X11_mark_38 hT) rfl (fun hf76 => ?_)
  refine v_load (v := (2, 0)) (hi_X11_mark_41 hT) rfl rfl ?_
  refine v_load (v := (2, 0)) (hi_X11_mark_42 hT) rfl rfl ?_
  refine v_getf (v := (0, 1)) (r := 0) (hi_X11_mark_43 hT) rfl rfl (fun _ => zset_same) ?_
  refine v_call (w := 2) [some (2, 0), some (0, 1)] hO (hi_X11_mark_46 hT) rfl rfl ?_
  refine v_load (v := (2, 0)) (hi_X11_answer_0 hT) rfl rfl ?_
  refine v_push (0) (hi_X11_answer_1 hT) rfl ?_
  refine v_putf (r := 0) hO (hi_X11_answer_2 hT) rfl (fun hf77 => ?_)
  refine v_load (v := (0, 1)) (hi_X11_answer_5 hT) rfl rfl ?_
  refine v_ret (hi_X11_answer_6 hT) (Or.inl rfl) ?_
  show vP D T N 165 49 (zset (zset (zcopy (zcopy (zcopy (zcopy (zset (zset (zcopy (zcopy (zcopy (zcopy (zcopy (zcopy (zcopy (zcopy (zcopy (zset (zset (zset (zset (zset h 55 0 (0, (h 39 0).2)) 55 1 (0, (h 39 1).2)) 55 2 (0, (h 39 2).2)) 55 3 (0, (h 39 3).2)) 55 4 (0, (h 39 4).2)) 40 0 56 0 48) 41 0 57 0 48) 42 0 58 0 144) 43 0 59 0 6) 44 0 60 0 6) 45 0 61 0 6) 46 0 62 0 6) 47 0 63 0 6) 48 0 64 0 6) 65 0 (0, (h 49 0).2)) 65 1 (0, (h 49 1).2)) 50 0 66 0 60) 51 0 67 0 60) 52 0 68 0 60) 53 0 69 0 60) 0 10 (0, 1)) 0 0 (0, 0)) [some (2, 0)] [(0, 1)] _
  refine v_ret (hi_X11_mark_49 hT) (Or.inl rfl) ?_
  exact k0 
theorem qc_back_39_0 {D : zD} {T : zT} (hT : hTab T) (hO : vOK T) {N : Nat} {h : zH} {Q : zR → Prop}  (hv0 : zHv h) (e7 : h 0 7 = (2, 39)) (em : h 0 10 = (0, 1))
    (k0 : Q (zset (zcopy (zcopy (zcopy (zcopy (zset (zset (zcopy (zcopy (zcopy (zcopy (zcopy (zcopy (zcopy (zcopy (zcopy (zset (zset (zset (zset (zset (zset h 0 10 (0, 0)) 39 0 (0, (h 55 0).2)) 39 1 (0, (h 55 1).2)) 39 2 (0, (h 55 2).2)) 39 3 (0, (h 55 3).2)) 39 4 (0, (h 55 4).2)) 56 0 40 0 48) 57 0 41 0 48) 58 0 42 0 144) 59 0 43 0 6) 60 0 44 0 6) 61 0 45 0 6) 62 0 46 0 6) 63 0 47 0 6) 64 0 48 0 6) 49 0 (0, (h 65 0).2)) 49 1 (0, (h 65 1).2)) 66 0 50 0 60) 67 0 51 0 60) 68 0 52 0 60) 69 0 53 0 60) 0 0 (0, 0), some (0, 0))) :
    vP D T N 144 0 h [some (2, 0)] [] Q := by
  refine v_load (v := (2, 0)) (hi_X11_back_0 hT) rfl rfl ?_
  refine v_getf (v := (0, 1)) (r := 0) (hi_X11_back_1 hT) rfl rfl (fun _ => em) ?_
  refine v_if (hi_X11_back_4 hT) (fun _ => ?_) (fun hc1 => absurd (show 0 < (1 : Int) from (by decide)) hc1)
  refine v_load (v := (2, 0)) (hi_X11_back_14 hT) rfl rfl ?_
  refine v_dup (hi_X11_back_15 hT) (Nat.ne_of_beq_eq_false rfl) ?_
  refine v_getf (v := (0, 1)) (r := 0) (hi_X11_back_16 hT) rfl rfl (fun _ => em) ?_
  refine v_push (1) (hi_X11_back_19 hT) rfl ?_
  refine v_bin (w := 0) (hi_X11_back_20 hT) (by decide) ?_
  refine v_putf (r := 0) hO (hi_X11_back_21 hT) rfl (fun hf2 => ?_)
  refine v_load (v := (2, 0)) (hi_X11_back_24 hT) rfl rfl ?_
  refine v_getf (v := (2, 39)) (r := 0) (hi_X11_back_25 hT) rfl rfl (fun _ => Eq.trans (zset_ne (fun c => absurd c.2 (by decide))) (e7)) ?_
  refine v_load (v := (2, 0)) (hi_X11_back_28 hT) rfl rfl ?_
  refine v_getR (c := 54) (r := 0) (hi_X11_back_29 hT) rfl rfl rfl ?_
  refine v_load (v := (2, 0)) (hi_X11_back_32 hT) rfl rfl ?_
  refine v_getf (v := (0, 0)) (r := 0) (hi_X11_back_33 hT) rfl rfl (fun _ => zset_same) ?_
  refine v_aldV (v := (2, 55)) (r := 54) (hi_X11_back_36 hT) rfl rfl (fun hv _ _ => hv.ref rfl) (fun ha3 hb4 => ?_)
  refine v_call (w := 2) [some (2, 39), some (2, 55)] hO (hi_X11_back_37 hT) rfl rfl ?_
  refine v_load (v := (2, 39)) (hi_X2_becomeLike_0 hT) rfl rfl ?_
  refine v_load (v := (2, 55)) (hi_X2_becomeLike_1 hT) rfl rfl ?_
  refine v_getf (v := (0, (h 55 0).2)) (r := 55) (hi_X2_becomeLike_2 hT) rfl rfl (fun hv_ => Eq.trans (zset_ne (fun c => absurd c.1 (by decide))) (hv0.at rfl)) ?_
  refine v_putf (r := 39) hO (hi_X2_becomeLike_5 hT) rfl (fun hf5 => ?_)
  refine v_load (v := (2, 39)) (hi_X2_becomeLike_8 hT) rfl rfl ?_
  refine v_load (v := (2, 55)) (hi_X2_becomeLike_9 hT) rfl rfl ?_
  refine v_getf (v := (0, (h 55 1).2)) (r := 55) (hi_X2_becomeLike_10 hT) rfl rfl (fun hv_ => Eq.trans (Eq.trans (zset_ne (fun c => absurd c.1 (by decide))) (zset_ne (fun c => absurd c.1 (by decide)))) (hv0.at rfl)) ?_
  refine v_putf (r := 39) hO (hi_X2_becomeLike_13 hT) rfl (fun hf6 => ?_)
  refine v_load (v := (2, 39)) (hi_X2_becomeLike_16 hT) rfl rfl ?_
  refine v_load (v := (2, 55)) (hi_X2_becomeLike_17 hT) rfl rfl ?_
  refine v_getf (v := (0, (h 55 2).2)) (r := 55) (hi_X2_becomeLike_18 hT) rfl rfl (fun hv_ => Eq.trans (Eq.trans (zset_ne (fun c => absurd c.1 (by decide))) (Eq.trans (zset_ne (fun c => absurd c.1 (by decide))) (zset_ne (fun c => absurd c.1 (by decide))))) (hv0.at rfl)) ?_
  refine v_putf (r := 39) hO (hi_X2_becomeLike_21 hT) rfl (fun hf7 => ?_)
  refine v_load (v := (2, 39)) (hi_X2_becomeLike_24 hT) rfl rfl ?_
  refine v_load (v := (2, 55)) (hi_X2_becomeLike_25 hT) rfl rfl ?_
  refine v_getf (v := (0, (h 55 3).2)) (r := 55) (hi_X2_becomeLike_26 hT) rfl rfl (fun hv_ => Eq.trans (Eq.trans (zset_ne (fun c => absurd c.1 (by decide))) (Eq.trans (zset_ne (fun c => absurd c.1 (by decide))) (Eq.trans (zset_ne (fun c => absurd c.1 (by decide))) (zset_ne (fun c => absurd c.1 (by decide)))))) (hv0.at rfl)) ?_
  refine v_putf (r := 39) hO (hi_X2_becomeLike_29 hT) rfl (fun hf8 => ?_)
  refine v_load (v := (2, 39)) (hi_X2_becomeLike_32 hT) rfl rfl ?_
  refine v_load (v := (2, 55)) (hi_X2_becomeLike_33 hT) rfl rfl ?_
  refine v_getf (v := (0, (h 55 4).2)) (r := 55) (hi_X2_becomeLike_34 hT) rfl rfl (fun hv_ => Eq.trans (Eq.trans (zset_ne (fun c => absurd c.1 (by decide))) (Eq.trans (zset_ne (fun c => absurd c.1 (by decide))) (Eq.trans (zset_ne (fun c => absurd c.1 (by decide))) (Eq.trans (zset_ne (fun c => absurd c.1 (by decide))) (zset_ne (fun c => absurd c.1 (by decide))))))) (hv0.at rfl)) ?_
  refine v_putf (r := 39) hO (hi_X2_becomeLike_37 hT) rfl (fun hf9 => ?_)
  refine v_load (v := (2, 55)) (hi_X2_becomeLike_40 hT) rfl rfl ?_
  refine v_getR (c := 56) (r := 55) (hi_X2_becomeLike_41 hT) rfl rfl rfl ?_
  refine v_push (0) (hi_X2_becomeLike_44 hT) rfl ?_
  refine v_load (v := (2, 39)) (hi_X2_becomeLike_45 hT) rfl rfl ?_
  refine v_getR (c := 40) (r := 39) (hi_X2_becomeLike_46 hT) rfl rfl rfl ?_
  refine v_push (0) (hi_X2_becomeLike_49 hT) rfl ?_
  refine v_push (48) (hi_X2_becomeLike_50 hT) rfl ?_
  refine v_copy (r0 := 56) (r1 := 40) (hi_X2_becomeLike_52 hT) rfl rfl rfl rfl (fun hd10 hd11 hd12 hd13 hd14 => ?_)
  refine v_load (v := (2, 55)) (hi_X2_becomeLike_55 hT) rfl rfl ?_
  refine v_getR (c := 57) (r := 55) (hi_X2_becomeLike_56 hT) rfl rfl rfl ?_
  refine v_push (0) (hi_X2_becomeLike_59 hT) rfl ?_
  refine v_load (v := (2, 39)) (hi_X2_becomeLike_60 hT) rfl rfl ?_
  refine v_getR (c := 41) (r := 39) (hi_X2_becomeLike_61 hT) rfl rfl rfl ?_
  refine v_push (0) (hi_X2_becomeLike_64 hT) rfl ?_
  refine v_push (48) (hi_X2_becomeLike_65 hT) rfl ?_
  refine v_copy (r0 := 57) (r1 := 41) (hi_X2_becomeLike_67 hT) rfl rfl rfl rfl (fun hd15 hd16 hd17 hd18 hd19 => ?_)
  refine v_load (v := (2, 55)) (hi_X2_becomeLike_70 hT) rfl rfl ?_
  refine v_getR (c := 58) (r := 55) (hi_X2_becomeLike_71 hT) rfl rfl rfl ?_
  refine v_push (0) (hi_X2_becomeLike_74 hT) rfl ?_
  refine v_load (v := (2, 39)) (hi_X2_becomeLike_75 hT) rfl rfl ?_
  refine v_getR (c := 42) (r := 39) (hi_X2_becomeLike_76 hT) rfl rfl rfl ?_
  refine v_push (0) (hi_X2_becomeLike_79 hT) rfl ?_
  refine v_push (144) (hi_X2_becomeLike_80 hT) rfl ?_
  refine v_copy (r0 := 58) (r1 := 42) (hi_X2_becomeLike_83 hT) rfl rfl rfl rfl (fun hd20 hd21 hd22 hd23 hd24 => ?_)
  refine v_load (v := (2, 55)) (hi_X2_becomeLike_86 hT) rfl rfl ?_
  refine v_getR (c := 59) (r := 55) (hi_X2_becomeLike_87 hT) rfl rfl rfl ?_
  refine v_push (0) (hi_X2_becomeLike_90 hT) rfl ?_
  refine v_load (v := (2, 39)) (hi_X2_becomeLike_91 hT) rfl rfl ?_
  refine v_getR (c := 43) (r := 39) (hi_X2_becomeLike_92 hT) rfl rfl rfl ?_
  refine v_push (0) (hi_X2_becomeLike_95 hT) rfl ?_
  refine v_push (6) (hi_X2_becomeLike_96 hT) rfl ?_
  refine v_copy (r0 := 59) (r1 := 43) (hi_X2_becomeLike_98 hT) rfl rfl rfl rfl (fun hd25 hd26 hd27 hd28 hd29 => ?_)
  refine v_load (v := (2, 55)) (hi_X2_becomeLike_101 hT) rfl rfl ?_
  refine v_getR (c := 60) (r := 55) (hi_X2_becomeLike_102 hT) rfl rfl rfl ?_
  refine v_push (0) (hi_X2_becomeLike_105 hT) rfl ?_
  refine v_load (v := (2, 39)) (hi_X2_becomeLike_106 hT) rfl rfl ?_
  refine v_getR (c := 44) (r := 39) (hi_X2_becomeLike_107 hT) rfl rfl rfl ?_
  refine v_push (0) (hi_X2_becomeLike_110 hT) rfl ?_
  refine v_push (6) (hi_X2_becomeLike_111 hT) rfl ?_
  refine v_copy (r0 := 60) (r1 := 44) (hi_X2_becomeLike_113 hT) rfl rfl rfl rfl (fun hd30 hd31 hd32 hd33 hd34 => ?_)
  refine v_load (v := (2, 55)) (hi_X2_becomeLike_116 hT) rfl rfl ?_
  refine v_getR (c := 61) (r := 55) (hi_X2_becomeLike_117 hT) rfl rfl rfl ?_
  refine v_push (0) (hi_X2_becomeLike_120 hT) rfl ?_
  refine v_load (v := (2, 39)) (hi_X2_becomeLike_121 hT) rfl rfl ?_
  refine v_getR (c := 45) (r := 39) (hi_X2_becomeLike_122 hT) rfl rfl rfl ?_
  refine v_push (0) (hi_X2_becomeLike_125 hT) rfl ?_
  refine v_push (6) (hi_X2_becomeLike_126 hT) rfl ?_
  refine v_copy (r0 := 61) (r1 := 45) (hi_X2_becomeLike_128 hT) rfl rfl rfl rfl (fun hd35 hd36 hd37 hd38 hd39 => ?_)
  refine v_load (v := (2, 55)) (hi_X2_becomeLike_131 hT) rfl rfl ?_
  refine v_getR (c := 62) (r := 55) (hi_X2_becomeLike_132 hT) rfl rfl rfl ?_
  refine v_push (0) (hi_X2_becomeLike_135 hT) rfl ?_
  refine v_load (v := (2, 39)) (hi_X2_becomeLike_136 hT) rfl rfl ?_
  refine v_getR (c := 46) (r := 39) (hi_X2_becomeLike_137 hT) rfl rfl rfl ?_
  refine v_push (0) (hi_X2_becomeLike_140 hT) rfl ?_
  refine v_push (6) (hi_X2_becomeLike_141 hT) rfl ?_
  refine v_copy (r0 := 62) (r1 := 46) (hi_X2_becomeLike_143 hT) rfl rfl rfl rfl (fun hd40 hd41 hd42 hd43 hd44 => ?_)
  refine v_load (v := (2, 55)) (hi_X2_becomeLike_146 hT) rfl rfl ?_
  refine v_getR (c := 63) (r := 55) (hi_X2_becomeLike_147 hT) rfl rfl rfl ?_
  refine v_push (0) (hi_X2_becomeLike_150 hT) rfl ?_
  refine v_load (v := (2, 39)) (hi_X2_becomeLike_151 hT) rfl rfl ?_
  refine v_getR (c := 47) (r := 39) (hi_X2_becomeLike_152 hT) rfl rfl rfl ?_
  refine v_push (0) (hi_X2_becomeLike_155 hT) rfl ?_
  refine v_push (6) (hi_X2_becomeLike_156 hT) rfl ?_
  refine v_copy (r0 := 63) (r1 := 47) (hi_X2_becomeLike_158 hT) rfl rfl rfl rfl (fun hd45 hd46 hd47 hd48 hd49 => ?_)
  refine v_load (v := (2, 55)) (hi_X2_becomeLike_161 hT) rfl rfl ?_
  refine v_getR (c := 64) (r := 55) (hi_X2_becomeLike_162 hT) rfl rfl rfl ?_
  refine v_push (0) (hi_X2_becomeLike_165 hT) rfl ?_
  refine v_load (v := (2, 39)) (hi_X2_becomeLike_166 hT) rfl rfl ?_
  refine v_getR (c := 48) (r := 39) (hi_X2_becomeLike_167 hT) rfl rfl rfl ?_
  refine v_push (0) (hi_X2_becomeLike_170 hT) rfl ?_
  refine v_push (6) (hi_X2_becomeLike_171 hT) rfl ?_
  refine v_copy (r0 := 64) (r1 := 48) (hi_X2_becomeLike_173 hT) rfl rfl rfl rfl (fun hd50 hd51 hd52 hd53 hd54 => ?_)
  refine v_load (v := (2, 39)) (hi_X2_becomeLike_176 hT) rfl rfl ?_
  refine v_getR (c := 49) (r := 39) (hi_X2_becomeLike_177 hT) rfl rfl rfl ?_
  refine v_load (v := (2, 55)) (hi_X2_becomeLike_180 hT) rfl rfl ?_
  refine v_getR (c := 65) (r := 55) (hi_X2_becomeLike_181 hT) rfl rfl rfl ?_
  refine v_call (w := 2) [some (2, 49), some (2, 65)] hO (hi_X2_becomeLike_184 hT) rfl rfl ?_
  refine v_load (v := (2, 49)) (hi_X5_becomeLike_0 hT) rfl rfl ?_
  refine v_load (v := (2, 65)) (hi_X5_becomeLike_1 hT) rfl rfl ?_
  refine v_getf (v := (0, (h 65 0).2)) (r := 65) (hi_X5_becomeLike_2 hT) rfl rfl (fun hv_ => Eq.trans (Eq.trans (vcopy_ne (fun c => absurd c.1 (by decide))) (Eq.trans (vcopy_ne (fun c => absurd c.1 (by decide))) (Eq.trans (vcopy_ne (fun c => absurd c.1 (by decide))) (Eq.trans (vcopy_ne (fun c => absurd c.1 (by decide))) (Eq.trans (vcopy_ne (fun c => absurd c.1 (by decide))) (Eq.trans (vcopy_ne (fun c => absurd c.1 (by decide))) (Eq.trans (vcopy_ne (fun c => absurd c.1 (by decide))) (Eq.trans (vcopy_ne (fun c => absurd c.1 (by decide))) (Eq.trans (vcopy_ne (fun c => absurd c.1 (by decide))) (Eq.trans (zset_ne (fun c => absurd c.1 (by decide))) (Eq.trans (zset_ne (fun c => absurd c.1 (by decide))) (Eq.trans (zset_ne (fun c => absurd c.1 (by decide))) (Eq.trans (zset_ne (fun c => absurd c.1 (by decide))) (Eq.trans (zset_ne (fun c => absurd c.1 (by decide))) (zset_ne (fun c => absurd c.1 (by decide))))))))))))))))) (hv0.at rfl)) ?_
  refine v_putf (r := 49) hO (hi_X5_becomeLike_5 hT) rfl (fun hf55 => ?_)
  refine v_load (v := (2, 49)) (hi_X5_becomeLike_8 hT) rfl rfl ?_
  refine v_load (v := (2, 65)) (hi_X5_becomeLike_9 hT) rfl rfl ?_
  refine v_getf (v := (0, (h 65 1).2)) (r := 65) (hi_X5_becomeLike_10 hT) rfl rfl (fun hv_ => Eq.trans (Eq.trans (zset_ne (fun c => absurd c.1 (by decide))) (Eq.trans (vcopy_ne (fun c => absurd c.1 (by decide))) (Eq.trans (vcopy_ne (fun c => absurd c.1 (by decide))) (Eq.trans (vcopy_ne (fun c => absurd c.1 (by decide))) (Eq.trans (vcopy_ne (fun c => absurd c.1 (by decide))) (Eq.trans (vcopy_ne (fun c => absurd c.1 (by decide))) (Eq.trans (vcopy_ne (fun c => absurd c.1 (by decide))) (Eq.trans (vcopy_ne (fun c => absurd c.1 (by decide))) (Eq.trans (vcopy_ne (fun c => absurd c.1 (by decide))) (Eq.trans (vcopy_ne (fun c => absurd c.1 (by decide))) (Eq.trans (zset_ne (fun c => absurd c.1 (by decide))) (Eq.trans (zset_ne (fun c => absurd c.1 (by decide))) (Eq.trans (zset_ne (fun c => absurd c.1 (by decide))) (Eq.trans (zset_ne (fun c => absurd c.1 (by decide))) (Eq.trans (zset_ne (fun c => absurd c.1 (by decide))) (zset_ne (fun c => absurd c.1 (by decide)))))))))))))))))) (hv0.at rfl)) ?_
  refine v_putf (r := 49) hO (hi_X5_becomeLike_13 hT) rfl (fun hf56 => ?_)
  refine v_load (v := (2, 65)) (hi_X5_becomeLike_16 hT) rfl rfl ?_
  refine v_getR (c := 66) (r := 65) (hi_X5_becomeLike_17 hT) rfl rfl rfl ?_
  refine v_push (0) (hi_X5_becomeLike_20 hT) rfl ?_
  refine v_load (v := (2, 49)) (hi_X5_becomeLike_21 hT) rfl rfl ?_
  refine v_getR (c := 50) (r := 49) (hi_X5_becomeLike_22 hT) rfl rfl rfl ?_
  refine v_push (0) (hi_X5_becomeLike_25 hT) rfl ?_
  refine v_push (60) (hi_X5_becomeLike_26 hT) rfl ?_
  refine v_copy (r0 := 66) (r1 := 50) (hi_X5_becomeLike_28 hT) rfl rfl rfl rfl (fun hd57 hd58 hd59 hd60 hd61 => ?_)
  refine v_load (v := (2, 65)) (hi_X5_becomeLike_31 hT) rfl rfl ?_
  refine v_getR (c := 67) (r := 65) (hi_X5_becomeLike_32 hT) rfl rfl rfl ?_
  refine v_push (0) (hi_X5_becomeLike_35 hT) rfl ?_
  refine v_load (v := (2, 49)) (hi_X5_becomeLike_36 hT) rfl rfl ?_
  refine v_getR (c := 51) (r := 49) (hi_X5_becomeLike_37 hT) rfl rfl rfl ?_
  refine v_push (0) (hi_X5_becomeLike_40 hT) rfl ?_
  refine v_push (60) (hi_X5_becomeLike_41 hT) rfl ?_
  refine v_copy (r0 := 67) (r1 := 51) (hi_X5_becomeLike_43 hT) rfl rfl rfl rfl (fun hd62 hd63 hd64 hd65 hd66 => ?_)
  refine v_load (v := (2, 65)) (hi_X5_becomeLike_46 hT) rfl rfl ?_
  refine v_getR (c := 68) (r := 65) (hi_X5_becomeLike_47 hT) rfl rfl rfl ?_
  refine v_push (0) (hi_X5_becomeLike_50 hT) rfl ?_
  refine v_load (v := (2, 49)) (hi_X5_becomeLike_51 hT) rfl rfl ?_
  refine v_getR (c := 52) (r := 49) (hi_X5_becomeLike_52 hT) rfl rfl rfl ?_
  refine v_push (0) (hi_X5_becomeLike_55 hT) rfl ?_
  refine v_push (60) (hi_X5_becomeLike_56 hT) rfl ?_
  refine v_copy (r0 := 68) (r1 := 52) (hi_X5_becomeLike_58 hT) rfl rfl rfl rfl (fun hd67 hd68 hd69 hd70 hd71 => ?_)
  refine v_load (v := (2, 65)) (hi_X5_becomeLike_61 hT) rfl rfl ?_
  refine v_getR (c := 69) (r := 65) (hi_X5_becomeLike_62 hT) rfl rfl rfl ?_
  refine v_push (0) (hi_X5_becomeLike_65 hT) rfl ?_
  refine v_load (v := (2, 49)) (hi_X5_becomeLike_66 hT) rfl rfl ?_
  refine v_getR (c := 53) (r := 49) (hi_X5_becomeLike_67 hT) rfl rfl rfl ?_
  refine v_push (0) (hi_X5_becomeLike_70 hT) rfl ?_
  refine v_push (60) (hi_X5_becomeLike_71 hT) rfl ?_
  refine v_copy (r0 := 69) (r1 := 53) (hi_X5_becomeLike_73 hT) rfl rfl rfl rfl (fun hd72 hd73 hd74 hd75 hd76 => ?_)
  refine v_ret0 (hi_X5_becomeLike_76 hT) ?_
  show vP D T N 25 187 (zcopy (zcopy (zcopy (zcopy (zset (zset (zcopy (zcopy (zcopy (zcopy (zcopy (zcopy (zcopy (zcopy (zcopy (zset (zset (zset (zset (zset (zset h 0 10 (0, 0)) 39 0 (0, (h 55 0).2)) 39 1 (0, (h 55 1).2)) 39 2 (0, (h 55 2).2)) 39 3 (0, (h 55 3).2)) 39 4 (0, (h 55 4).2)) 56 0 40 0 48) 57 0 41 0 48) 58 0 42 0 144) 59 0 43 0 6) 60 0 44 0 6) 61 0 45 0 6) 62 0 46 0 6) 63 0 47 0 6) 64 0 48 0 6) 49 0 (0, (h 65 0).2)) 49 1 (0, (h 65 1).2)) 66 0 50 0 60) 67 0 51 0 60) 68 0 52 0 60) 69 0 53 0 60) [some (2, 39), some (2, 55)] [] _
  refine v_ret0 (hi_X2_becomeLike_187 hT) ?_
  show vP D T N 144 40 (zcopy (zcopy (zcopy (zcopy (zset (zset (zcopy (zcopy (zcopy (zcopy (zcopy (zcopy (zcopy (zcopy (zcopy (zset (zset (zset (zset (zset (zset h 0 10 (0, 0)) 39 0 (0, (h 55 0).2)) 39 1 (0, (h 55 1).2)) 39 2 (0, (h 55 2).2)) 39 3 (0, (h 55 3).2)) 39 4 (0, (h 55 4).2)) 56 0 40 0 48) 57 0 41 0 48) 58 0 42 0 144) 59 0 43 0 6) 60 0 44 0 6) 61 0 45 0 6) 62 0 46 0 6) 63 0 47 0 6) 64 0 48 0 6) 49 0 (0, (h 65 0).2)) 49 1 (0, (h 65 1).2)) 66 0 50 0 60) 67 0 51 0 60) 68 0 52 0 60) 69 0 53 0 60) [some (2, 0)] [] _
  refine v_load (v := (2, 0)) (hi_X11_back_40 hT) rfl rfl ?_
  refine v_load (v := (2, 0)) (hi_X11_back_41 hT) rfl rfl ?_
  refine v_getf (v := (0, 0)) (r := 0) (hi_X11_back_42 hT) rfl rfl (fun _ => Eq.trans (Eq.trans (vcopy_ne (fun c => absurd c.1 (by decide))) (Eq.trans (vcopy_ne (fun c => absurd c.1 (by decide))) (Eq.trans (vcopy_ne (fun c => absurd c.1 (by decide))) (Eq.trans (vcopy_ne (fun c => absurd c.1 (by decide))) (Eq.trans (zset_ne (fun c => absurd c.1 (by decide))) (Eq.trans (zset_ne (fun c => absurd c.1 (by decide))) (Eq.trans (vcopy_ne (fun c => absurd c.1 (by decide))) (Eq.trans (vcopy_ne (fun c => absurd c.1 (by decide))) (Eq.trans (vcopy_ne (fun c => absurd c.1 (by decide))) (Eq.trans (vcopy_ne (fun c => absurd c.1 (by decide))) (Eq.trans (vcopy_ne (fun c => absurd c.1 (by decide))) (Eq.trans (vcopy_ne (fun c => absurd c.1 (by decide))) (Eq.trans (vcopy_ne (fun c => absurd c.1 (by decide))) (Eq.trans (vcopy_ne (fun c => absurd c.1 (by decide))) (Eq.trans (vcopy_ne (fun c => absurd c.1 (by decide))) (Eq.trans (zset_ne (fun c => absurd c.1 (by decide))) (Eq.trans (zset_ne (fun c => absurd c.1 (by decide))) (Eq.trans (zset_ne (fun c => absurd c.1 (by decide))) (Eq.trans (zset_ne (fun c => absurd c.1 (by decide))) (zset_ne (fun c => absurd c.1 (by decide)))))))))))))))))))))) zset_same) ?_
  refine v_call (w := 2) [some (2, 0), some (0, 0)] hO (hi_X11_back_45 hT) rfl rfl ?_
  refine v_load (v := (2, 0)) (hi_X11_answer_0 hT) rfl rfl ?_
  refine v_push (0) (hi_X11_answer_1 hT) rfl ?_
  refine v_putf (r := 0) hO (hi_X11_answer_2 hT) rfl (fun hf77 => ?_)
  refine v_load (v := (0, 0)) (hi_X11_answer_5 hT) rfl rfl ?_
  refine v_ret (hi_X11_answer_6 hT) (Or.inl rfl) ?_
  show vP D T N 144 48 (zset (zcopy (zcopy (zcopy (zcopy (zset (zset (zcopy (zcopy (zcopy (zcopy (zcopy (zcopy (zcopy (zcopy (zcopy (zset (zset (zset (zset (zset (zset h 0 10 (0, 0)) 39 0 (0, (h 55 0).2)) 39 1 (0, (h 55 1).2)) 39 2 (0, (h 55 2).2)) 39 3 (0, (h 55 3).2)) 39 4 (0, (h 55 4).2)) 56 0 40 0 48) 57 0 41 0 48) 58 0 42 0 144) 59 0 43 0 6) 60 0 44 0 6) 61 0 45 0 6) 62 0 46 0 6) 63 0 47 0 6) 64 0 48 0 6) 49 0 (0, (h 65 0).2)) 49 1 (0, (h 65 1).2)) 66 0 50 0 60) 67 0 51 0 60) 68 0 52 0 60) 69 0 53 0 60) 0 0 (0, 0)) [some (2, 0)] [(0, 0)] _
  refine v_ret (hi_X11_back_48 hT) (Or.inl rfl) ?_
  exact k0 
theorem qc_mark_39_1 {D : zD} {T : zT} (hT : hTab T) (hO : vOK T) {N : Nat} {h : zH} {Q : zR → Prop}  (hv0 : zHv h) (e7 : h 0 7 = (2, 39)) (em : h 0 10 = (0, 1))
    (k0 : Q (zset (zset (zcopy (zcopy (zcopy (zcopy (zset (zset (zcopy (zcopy (zcopy (zcopy (zcopy (zcopy (zcopy (zcopy (zcopy (zset (zset (zset (zset (zset h 70 0 (0, (h 39 0).2)) 70 1 (0, (h 39 1).2)) 70 2 (0, (h 39 2).2)) 70 3 (0, (h 39 3).2)) 70 4 (0, (h 39 4).2)) 40 0 71 0 48) 41 0 72 0 48) 42 0 73 0 144) 43 0 74 0 6) 44 0 75 0 6) 45 0 76 0 6) 46 0 77 0 6) 47 0 78 0 6) 48 0 79 0 6) 80 0 (0, (h 49 0).2)) 80 1 (0, (h 49 1).2)) 50 0 81 0 60) 51 0 82 0 60) 52 0 83 0 60) 53 0 84 0 60) 0 10 (0, 2)) 0 0 (0, 0), some (0, 2))) :
    vP D T N 165 0 h [some (2, 0)] [] Q := by
  refine v_load (v := (2, 0)) (hi_X11_mark_0 hT) rfl rfl ?_
  refine v_getf (v := (0, 1)) (r := 0) (hi_X11_mark_1 hT) rfl rfl (fun _ => em) ?_
  refine v_push (3) (hi_X11_mark_4 hT) rfl ?_
  refine v_ic (hi_X11_mark_5 hT) (fun _ => ?_) (fun hc1 => absurd (show (1 : Int) < 3 from (by decide)) hc1)
  refine v_load (v := (2, 0)) (hi_X11_mark_15 hT) rfl rfl ?_
  refine v_getR (c := 54) (r := 0) (hi_X11_mark_16 hT) rfl rfl rfl ?_
  refine v_load (v := (2, 0)) (hi_X11_mark_19 hT) rfl rfl ?_
  refine v_getf (v := (0, 1)) (r := 0) (hi_X11_mark_20 hT) rfl rfl (fun _ => em) ?_
  refine v_aldV (v := (2, 70)) (r := 54) (hi_X11_mark_23 hT) rfl rfl (fun hv _ _ => hv.ref rfl) (fun ha2 hb3 => ?_)
  refine v_load (v := (2, 0)) (hi_X11_mark_24 hT) rfl rfl ?_
  refine v_getf (v := (2, 39)) (r := 0) (hi_X11_mark_25 hT) rfl rfl (fun _ => e7) ?_
  refine v_call (w := 2) [some (2, 70), some (2, 39)] hO (hi_X11_mark_28 hT) rfl rfl ?_
  refine v_load (v := (2, 70)) (hi_X2_becomeLike_0 hT) rfl rfl ?_
  refine v_load (v := (2, 39)) (hi_X2_becomeLike_1 hT) rfl rfl ?_
  refine v_getI (t := 0) (r := 39) (hi_X2_becomeLike_2 hT) rfl rfl rfl ?_
  refine v_putf (r := 70) hO (hi_X2_becomeLike_5 hT) rfl (fun hf4 => ?_)
  refine v_load (v := (2, 70)) (hi_X2_becomeLike_8 hT) rfl rfl ?_
  refine v_load (v := (2, 39)) (hi_X2_becomeLike_9 hT) rfl rfl ?_
  refine v_getf (v := (0, (h 39 1).2)) (r := 39) (hi_X2_becomeLike_10 hT) rfl rfl (fun hv_ => Eq.trans (zset_ne (fun c => absurd c.1 (by decide))) (hv0.at rfl)) ?_
  refine v_putf (r := 70) hO (hi_X2_becomeLike_13 hT) rfl (fun hf5 => ?_)
  refine v_load (v := (2, 70)) (hi_X2_becomeLike_16 hT) rfl rfl ?_
  refine v_load (v := (2, 39)) (hi_X2_becomeLike_17 hT) rfl rfl ?_
  refine v_getf (v := (0, (h 39 2).2)) (r := 39) (hi_X2_becomeLike_18 hT) rfl rfl (fun hv_ => Eq.trans (Eq.trans (zset_ne (fun c => absurd c.1 (by decide))) (zset_ne (fun c => absurd c.1 (by decide)))) (hv0.at rfl)) ?_
  refine v_putf (r := 70) hO (hi_X2_becomeLike_21 hT) rfl (fun hf6 => ?_)
  refine v_load (v := (2, 70)) (hi_X2_becomeLike_24 hT) rfl rfl ?_
  refine v_load (v := (2, 39)) (hi_X2_becomeLike_25 hT) rfl rfl ?_
  refine v_getf (v := (0, (h 39 3).2)) (r := 39) (hi_X2_becomeLike_26 hT) rfl rfl (fun hv_ => Eq.trans (Eq.trans (zset_ne (fun c => absurd c.1 (by decide))) (Eq.trans (zset_ne (fun c => absurd c.1 (by decide))) (zset_ne (fun c => absurd c.1 (by decide))))) (hv0.at rfl)) ?_
  refine v_putf (r := 70) hO (hi_X2_becomeLike_29 hT) rfl (fun hf7 => ?_)
  refine v_load (v := (2, 70)) (hi_X2_becomeLike_32 hT) rfl rfl ?_
  refine v_load (v := (2, 39)) (hi_X2_becomeLike_33 hT) rfl rfl ?_
  refine v_getf (v := (0, (h 39 4).2)) (r := 39) (hi_X2_becomeLike_34 hT) rfl rfl (fun hv_ => Eq.trans (Eq.trans (zset_ne (fun c => absurd c.1 (by decide))) (Eq.trans (zset_ne (fun c => absurd c.1 (by decide))) (Eq.trans (zset_ne (fun c => absurd c.1 (by decide))) (zset_ne (fun c => absurd c.1 (by decide)))))) (hv0.at rfl)) ?_
  refine v_putf (r := 70) hO (hi_X2_becomeLike_37 hT) rfl (fun hf8 => ?_)
  refine v_load (v := (2, 39)) (hi_X2_becomeLike_40 hT) rfl rfl ?_
  refine v_getR (c := 40) (r := 39) (hi_X2_becomeLike_41 hT) rfl rfl rfl ?_
  refine v_push (0) (hi_X2_becomeLike_44 hT) rfl ?_
  refine v_load (v := (2, 70)) (hi_X2_becomeLike_45 hT) rfl rfl ?_
  refine v_getR (c := 71) (r := 70) (hi_X2_becomeLike_46 hT) rfl rfl rfl ?_
  refine v_push (0) (hi_X2_becomeLike_49 hT) rfl ?_
  refine v_push (48) (hi_X2_becomeLike_50 hT) rfl ?_
  refine v_copy (r0 := 40) (r1 := 71) (hi_X2_becomeLike_52 hT) rfl rfl rfl rfl (fun hd9 hd10 hd11 hd12 hd13 => ?_)
  refine v_load (v := (2, 39)) (hi_X2_becomeLike_55 hT) rfl rfl ?_
  refine v_getR (c := 41) (r := 39) (hi_X2_becomeLike_56 hT) rfl rfl rfl ?_
  refine v_push (0) (hi_X2_becomeLike_59 hT) rfl ?_
  refine v_load (v := (2, 70)) (hi_X2_becomeLike_60 hT) rfl rfl ?_
  refine v_getR (c := 72) (r := 70) (hi_X2_becomeLike_61 hT) rfl rfl rfl ?_
  refine v_push (0) (hi_X2_becomeLike_64 hT) rfl ?_
  refine v_push (48) (hi_X2_becomeLike_65 hT) rfl ?_
  refine v_copy (r0 := 41) (r1 := 72) (hi_X2_becomeLike_67 hT) rfl rfl rfl rfl (fun hd14 hd15 hd16 hd17 hd18 => ?_)
  refine v_load (v := (2, 39)) (hi_X2_becomeLike_70 hT) rfl rfl ?_
  refine v_getR (c := 42) (r := 39) (hi_X2_becomeLike_71 hT) rfl rfl rfl ?_
  refine v_push (0) (hi_X2_becomeLike_74 hT) rfl ?_
  refine v_load (v := (2, 70)) (hi_X2_becomeLike_75 hT) rfl rfl ?_
  refine v_getR (c := 73) (r := 70) (hi_X2_becomeLike_76 hT) rfl rfl rfl ?_
  refine v_push (0) (hi_X2_becomeLike_79 hT) rfl ?_
  refine v_push (144) (hi_X2_becomeLike_80 hT) rfl ?_
  refine v_copy (r0 := 42) (r1 := 73) (hi_X2_becomeLike_83 hT) rfl rfl rfl rfl (fun hd19 hd20 hd21 hd22 hd23 => ?_)
  refine v_load (v := (2, 39)) (hi_X2_becomeLike_86 hT) rfl rfl ?_
  refine v_getR (c := 43) (r := 39) (hi_X2_becomeLike_87 hT) rfl rfl rfl ?_
  refine v_push (0) (hi_X2_becomeLike_90 hT) rfl ?_
  refine v_load (v := (2, 70)) (hi_X2_becomeLike_91 hT) rfl rfl ?_
  refine v_getR (c := 74) (r := 70) (hi_X2_becomeLike_92 hT) rfl rfl rfl ?_
  refine v_push (0) (hi_X2_becomeLike_95 hT) rfl ?_
  refine v_push (6) (hi_X2_becomeLike_96 hT) rfl ?_
  refine v_copy (r0 := 43) (r1 := 74) (hi_X2_becomeLike_98 hT) rfl rfl rfl rfl (fun hd24 hd25 hd26 hd27 hd28 => ?_)
  refine v_load (v := (2, 39)) (hi_X2_becomeLike_101 hT) rfl rfl ?_
  refine v_getR (c := 44) (r := 39) (hi_X2_becomeLike_102 hT) rfl rfl rfl ?_
  refine v_push (0) (hi_X2_becomeLike_105 hT) rfl ?_
  refine v_load (v := (2, 70)) (hi_X2_becomeLike_106 hT) rfl rfl ?_
  refine v_getR (c := 75) (r := 70) (hi_X2_becomeLike_107 hT) rfl rfl rfl ?_
  refine v_push (0) (hi_X2_becomeLike_110 hT) rfl ?_
  refine v_push (6) (hi_X2_becomeLike_111 hT) rfl ?_
  refine v_copy (r0 := 44) (r1 := 75) (hi_X2_becomeLike_113 hT) rfl rfl rfl rfl (fun hd29 hd30 hd31 hd32 hd33 => ?_)
  refine v_load (v := (2, 39)) (hi_X2_becomeLike_116 hT) rfl rfl ?_
  refine v_getR (c := 45) (r := 39) (hi_X2_becomeLike_117 hT) rfl rfl rfl ?_
  refine v_push (0) (hi_X2_becomeLike_120 hT) rfl ?_
  refine v_load (v := (2, 70)) (hi_X2_becomeLike_121 hT) rfl rfl ?_
  refine v_getR (c := 76) (r := 70) (hi_X2_becomeLike_122 hT) rfl rfl rfl ?_
  refine v_push (0) (hi_X2_becomeLike_125 hT) rfl ?_
  refine v_push (6) (hi_X2_becomeLike_126 hT) rfl ?_
  refine v_copy (r0 := 45) (r1 := 76) (hi_X2_becomeLike_128 hT) rfl rfl rfl rfl (fun hd34 hd35 hd36 hd37 hd38 => ?_)
  refine v_load (v := (2, 39)) (hi_X2_becomeLike_131 hT) rfl rfl ?_
  refine v_getR (c := 46) (r := 39) (hi_X2_becomeLike_132 hT) rfl rfl rfl ?_
  refine v_push (0) (hi_X2_becomeLike_135 hT) rfl ?_
  refine v_load (v := (2, 70)) (hi_X2_becomeLike_136 hT) rfl rfl ?_
  refine v_getR (c := 77) (r := 70) (hi_X2_becomeLike_137 hT) rfl rfl rfl ?_
  refine v_push (0) (hi_X2_becomeLike_140 hT) rfl ?_
  refine v_push (6) (hi_X2_becomeLike_141 hT) rfl ?_
  refine v_copy (r0 := 46) (r1 := 77) (hi_X2_becomeLike_143 hT) rfl rfl rfl rfl (fun hd39 hd40 hd41 hd42 hd43 => ?_)
  refine v_load (v := (2, 39)) (hi_X2_becomeLike_146 hT) rfl rfl ?_
  refine v_getR (c := 47) (r := 39) (hi_X2_becomeLike_147 hT) rfl rfl rfl ?_
  refine v_push (0) (hi_X2_becomeLike_150 hT) rfl ?_
  refine v_load (v := (2, 70)) (hi_X2_becomeLike_151 hT) rfl rfl ?_
  refine v_getR (c := 78) (r := 70) (hi_X2_becomeLike_152 hT) rfl rfl rfl ?_
  refine v_push (0) (hi_X2_becomeLike_155 hT) rfl ?_
  refine v_push (6) (hi_X2_becomeLike_156 hT) rfl ?_
  refine v_copy (r0 := 47) (r1 := 78) (hi_X2_becomeLike_158 hT) rfl rfl rfl rfl (fun hd44 hd45 hd46 hd47 hd48 => ?_)
  refine v_load (v := (2, 39)) (hi_X2_becomeLike_161 hT) rfl rfl ?_
  refine v_getR (c := 48) (r := 39) (hi_X2_becomeLike_162 hT) rfl rfl rfl ?_
  refine v_push (0) (hi_X2_becomeLike_165 hT) rfl ?_
  refine v_load (v := (2, 70)) (hi_X2_becomeLike_166 hT) rfl rfl ?_
  refine v_getR (c := 79) (r := 70) (hi_X2_becomeLike_167 hT) rfl rfl rfl ?_
  refine v_push (0) (hi_X2_becomeLike_170 hT) rfl ?_
  refine v_push (6) (hi_X2_becomeLike_171 hT) rfl ?_
  refine v_copy (r0 := 48) (r1 := 79) (hi_X2_becomeLike_173 hT) rfl rfl rfl rfl (fun hd49 hd50 hd51 hd52 hd53 => ?_)
  refine v_load (v := (2, 70)) (hi_X2_becomeLike_176 hT) rfl rfl ?_
  refine v_getR (c := 80) (r := 70) (hi_X2_becomeLike_177 hT) rfl rfl rfl ?_
  refine v_load (v := (2, 39)) (hi_X2_becomeLike_180 hT) rfl rfl ?_
  refine v_getR (c := 49) (r := 39) (hi_X2_becomeLike_181 hT) rfl rfl rfl ?_
  refine v_call (w := 2) [some (2, 80), some (2, 49)] hO (hi_X2_becomeLike_184 hT) rfl rfl ?_
  refine v_load (v := (2, 80)) (hi_X5_becomeLike_0 hT) rfl rfl ?_
  refine v_load (v := (2, 49)) (hi_X5_becomeLike_1 hT) rfl rfl ?_
  refine v_getf (v := (0, (h 49 0).2)) (r := 49) (hi_X5_becomeLike_2 hT) rfl rfl (fun hv_ => Eq.trans (Eq.trans (vcopy_ne (fun c => absurd c.1 (by decide))) (Eq.trans (vcopy_ne (fun c => absurd c.1 (by decide))) (Eq.trans (vcopy_ne (fun c => absurd c.1 (by decide))) (Eq.trans (vcopy_ne (fun c => absurd c.1 (by decide))) (Eq.trans (vcopy_ne (fun c => absurd c.1 (by decide))) (Eq.trans (vcopy_ne (fun c => absurd c.1 (by decide))) (Eq.trans (vcopy_ne (fun c => absurd c.1 (by decide))) (Eq.trans (vcopy_ne (fun c => absurd c.1 (by decide))) (Eq.trans (vcopy_ne (fun c => absurd c.1 (by decide))) (Eq.trans (zset_ne (fun c => absurd c.1 (by decide))) (Eq.trans (zset_ne (fun c => absurd c.1 (by decide))) (Eq.trans (zset_ne (fun c => absurd c.1 (by decide))) (Eq.trans (zset_ne (fun c => absurd c.1 (by decide))) (zset_ne (fun c => absurd c.1 (by decide)))))))))))))))) (hv0.at rfl)) ?_
  refine v_putf (r := 80) hO (hi_X5_becomeLike_5 hT) rfl (fun hf54 => ?_)
  refine v_load (v := (2, 80)) (hi_X5_becomeLike_8 hT) rfl rfl ?_
  refine v_load (v := (2, 49)) (hi_X5_becomeLike_9 hT) rfl rfl ?_
  refine v_getf (v := (0, (h 49 1).2)) (r := 49) (hi_X5_becomeLike_10 hT) rfl rfl (fun hv_ => Eq.trans (Eq.trans (zset_ne (fun c => absurd c.1 (by decide))) (Eq.trans (vcopy_ne (fun c => absurd c.1 (by decide))) (Eq.trans (vcopy_ne (fun c => absurd c.1 (by decide))) (Eq.trans (vcopy_ne (fun c => absurd c.1 (by decide))) (Eq.trans (vcopy_ne (fun c => absurd c.1 (by decide))) (Eq.trans (vcopy_ne (fun c => absurd c.1 (by decide))) (Eq.trans (vcopy_ne (fun c => absurd c.1 (by decide))) (Eq.trans (vcopy_ne (fun c => absurd c.1 (by decide))) (Eq.trans (vcopy_ne (fun c => absurd c.1 (by decide))) (Eq.trans (vcopy_ne (fun c => absurd c.1 (by decide))) (Eq.trans (zset_ne (fun c => absurd c.1 (by decide))) (Eq.trans (zset_ne (fun c => absurd c.1 (by decide))) (Eq.trans (zset_ne (fun c => absurd c.1 (by decide))) (Eq.trans (zset_ne (fun c => absurd c.1 (by decide))) (zset_ne (fun c => absurd c.1 (by decide))))))))))))))))) (hv0.at rfl)) ?_
  refine v_putf (r := 80) hO (hi_X5_becomeLike_13 hT) rfl (fun hf55 => ?_)
  refine v_load (v := (2, 49)) (hi_X5_becomeLike_16 hT) rfl rfl ?_
  refine v_getR (c := 50) (r := 49) (hi_X5_becomeLike_17 hT) rfl rfl rfl ?_
  refine v_push (0) (hi_X5_becomeLike_20 hT) rfl ?_
  refine v_load (v := (2, 80)) (hi_X5_becomeLike_21 hT) rfl rfl ?_
  refine v_getR (c := 81) (r := 80) (hi_X5_becomeLike_22 hT) rfl rfl rfl ?_
  refine v_push (0) (hi_X5_becomeLike_25 hT) rfl ?_
  refine v_push (60) (hi_X5_becomeLike_26 hT) rfl ?_
  refine v_copy (r0 := 50) (r1 := 81) (hi_X5_becomeLike_28 hT) rfl rfl rfl rfl (fun hd56 hd57 hd58 hd59 hd60 => ?_)
  refine v_load (v := (2, 49)) (hi_X5_becomeLike_31 hT) rfl rfl ?_
  refine v_getR (c := 51) (r := 49) (hi_X5_becomeLike_32 hT) rfl rfl rfl ?_
  refine v_push (0) (hi_X5_becomeLike_35 hT) rfl ?_
  refine v_load (v := (2, 80)) (hi_X5_becomeLike_36 hT) rfl rfl ?_
  refine v_getR (c := 82) (r := 80) (hi_X5_becomeLike_37 hT) rfl rfl rfl ?_
  refine v_push (0) (hi_X5_becomeLike_40 hT) rfl ?_
  refine v_push (60) (hi_X5_becomeLike_41 hT) rfl ?_
  refine v_copy (r0 := 51) (r1 := 82) (hi_X5_becomeLike_43 hT) rfl rfl rfl rfl (fun hd61 hd62 hd63 hd64 hd65 => ?_)
  refine v_load (v := (2, 49)) (hi_X5_becomeLike_46 hT) rfl rfl ?_
  refine v_getR (c := 52) (r := 49) (hi_X5_becomeLike_47 hT) rfl rfl rfl ?_
  refine v_push (0) (hi_X5_becomeLike_50 hT) rfl ?_
  refine v_load (v := (2, 80)) (hi_X5_becomeLike_51 hT) rfl rfl ?_
  refine v_getR (c := 83) (r := 80) (hi_X5_becomeLike_52 hT) rfl rfl rfl ?_
  refine v_push (0) (hi_X5_becomeLike_55 hT) rfl ?_
  refine v_push (60) (hi_X5_becomeLike_56 hT) rfl ?_
  refine v_copy (r0 := 52) (r1 := 83) (hi_X5_becomeLike_58 hT) rfl rfl rfl rfl (fun hd66 hd67 hd68 hd69 hd70 => ?_)
  refine v_load (v := (2, 49)) (hi_X5_becomeLike_61 hT) rfl rfl ?_
  refine v_getR (c := 53) (r := 49) (hi_X5_becomeLike_62 hT) rfl rfl rfl ?_
  refine v_push (0) (hi_X5_becomeLike_65 hT) rfl ?_
  refine v_load (v := (2, 80)) (hi_X5_becomeLike_66 hT) rfl rfl ?_
  refine v_getR (c := 84) (r := 80) (hi_X5_becomeLike_67 hT) rfl rfl rfl ?_
  refine v_push (0) (hi_X5_becomeLike_70 hT) rfl ?_
  refine v_push (60) (hi_X5_becomeLike_71 hT) rfl ?_
  refine v_copy (r0 := 53) (r1 := 84) (hi_X5_becomeLike_73 hT) rfl rfl rfl rfl (fun hd71 hd72 hd73 hd74 hd75 => ?_)
  refine v_ret0 (hi_X5_becomeLike_76 hT) ?_
  show vP D T N 25 187 (zcopy (zcopy (zcopy (zcopy (zset (zset (zcopy (zcopy (zcopy (zcopy (zcopy (zcopy (zcopy (zcopy (zcopy (zset (zset (zset (zset (zset h 70 0 (0, (h 39 0).2)) 70 1 (0, (h 39 1).2)) 70 2 (0, (h 39 2).2)) 70 3 (0, (h 39 3).2)) 70 4 (0, (h 39 4).2)) 40 0 71 0 48) 41 0 72 0 48) 42 0 73 0 144) 43 0 74 0 6) 44 0 75 0 6) 45 0 76 0 6) 46 0 77 0 6) 47 0 78 0 6) 48 0 79 0 6) 80 0 (0, (h 49 0).2)) 80 1 (0, (h 49 1).2)) 50 0 81 0 60) 51 0 82 0 60) 52 0 83 0 60) 53 0 84 0 60) [some (2, 70), some (2, 39)] [] _
  refine v_ret0 (hi_X2_becomeLike_187 hT) ?_
  show vP D T N 165 31 (zcopy (zcopy (zcopy (zcopy (zset (zset (zcopy (zcopy (zcopy (zcopy (zcopy (zcopy (zcopy (zcopy (zcopy (zset (zset (zset (zset (zset h 70 0 (0, (h 39 0).2)) 70 1 (0, (h 39 1).2)) 70 2 (0, (h 39 2).2)) 70 3 (0, (h 39 3).2)) 70 4 (0, (h 39 4).2)) 40 0 71 0 48) 41 0 72 0 48) 42 0 73 0 144) 43 0 74 0 6) 44 0 75 0 6) 45 0 76 0 6) 46 0 77 0 6) 47 0 78 0 6) 48 0 79 0 6) 80 0 (0, (h 49 0).2)) 80 1 (0, (h 49 1).2)) 50 0 81 0 60) 51 0 82 0 60) 52 0 83 0 60) 53 0 84 0 60) [some (2, 0)] [] _
  refine v_load (v := (2, 0)) (hi_X11_mark_31 hT) rfl rfl ?_
  refine v_dup (hi_X11_mark_32 hT) (Nat.ne_of_beq_eq_false rfl) ?_
  refine v_getf (v := (0, 1)) (r := 0) (hi_X11_mark_33 hT) rfl rfl (fun _ => Eq.trans (Eq.trans (vcopy_ne (fun c => absurd c.1 (by decide))) (Eq.trans (vcopy_ne (fun c => absurd c.1 (by decide))) (Eq.trans (vcopy_ne (fun c => absurd c.1 (by decide))) (Eq.trans (vcopy_ne (fun c => absurd c.1 (by decide))) (Eq.trans (zset_ne (fun c => absurd c.1 (by decide))) (Eq.trans (zset_ne (fun c => absurd c.1 (by decide))) (Eq.trans (vcopy_ne (fun c => absurd c.1 (by decide))) (Eq.trans (vcopy_ne (fun c => absurd c.1 (by decide))) (Eq.trans (vcopy_ne (fun c => absurd c.1 (by decide))) (Eq.trans (vcopy_ne (fun c => absurd c.1 (by decide))) (Eq.trans (vcopy_ne (fun c => absurd c.1 (by decide))) (Eq.trans (vcopy_ne (fun c => absurd c.1 (by decide))) (Eq.trans (vcopy_ne (fun c => absurd c.1 (by decide))) (Eq.trans (vcopy_ne (fun c => absurd c.1 (by decide))) (Eq.trans (vcopy_ne (fun c => absurd c.1 (by decide))) (Eq.trans (zset_ne (fun c => absurd c.1 (by decide))) (Eq.trans (zset_ne (fun c => absurd c.1 (by decide))) (Eq.trans (zset_ne (fun c => absurd c.1 (by decide))) (Eq.trans (zset_ne (fun c => absurd c.1 (by decide))) (zset_ne (fun c => absurd c.1 (by decide)))))))))))))))))))))) (em)) ?_
  refine v_push (1) (hi_X11_mark_36 hT) rfl ?_
  refine v_bin (w := 2) (hi_X11_mark_37 hT) (by decide) ?_
  refine v_putf (r := 0) hO (hi_X11_mark_38 hT) rfl (fun hf76 => ?_)
  refine v_load (v := (2, 0)) (hi_X11_mark_41 hT) rfl rfl ?_
  refine v_load (v := (2, 0)) (hi_X11_mark_42 hT) rfl rfl ?_
  refine v_getf (v := (0, 2)) (r := 0) (hi_X11_mark_43 hT) rfl rfl (fun _ => zset_same) ?_
  refine v_call (w := 2) [some (2, 0), some (0, 2)] hO (hi_X11_mark_46 hT) rfl rfl ?_
  refine v_load (v := (2, 0)) (hi_X11_answer_0 hT) rfl rfl ?_
  refine v_push (0) (hi_X11_answer_1 hT) rfl ?_
  refine v_putf (r := 0) hO (hi_X11_answer_2 hT) rfl (fun hf77 => ?_)
  refine v_load (v := (0, 2)) (hi_X11_answer_5 hT) rfl rfl ?_
  refine v_ret (hi_X11_answer_6 hT) (Or.inl rfl) ?_
  show vP D T N 165 49 (zset (zset (zcopy (zcopy (zcopy (zcopy (zset (zset (zcopy (zcopy (zcopy (zcopy (zcopy (zcopy (zcopy (zcopy (zcopy (zset (zset (zset (zset (zset h 70 0 (0, (h 39 0).2)) 70 1 (0, (h 39 1).2)) 70 2 (0, (h 39 2).2)) 70 3 (0, (h 39 3).2)) 70 4 (0, (h 39 4).2)) 40 0 71 0 48) 41 0 72 0 48) 42 0 73 0 144) 43 0 74 0 6) 44 0 75 0 6) 45 0 76 0 6) 46 0 77 0 6) 47 0 78 0 6) 48 0 79 0 6) 80 0 (0, (h 49 0).2)) 80 1 (0, (h 49 1).2)) 50 0 81 0 60) 51 0 82 0 60) 52 0 83 0 60) 53 0 84 0 60) 0 10 (0, 2)) 0 0 (0, 0)) [some (2, 0)] [(0, 2)] _
  refine v_ret (hi_X11_mark_49 hT) (Or.inl rfl) ?_
  exact k0 
theorem qc_back_39_1 {D : zD} {T : zT} (hT : hTab T) (hO : vOK T) {N : Nat} {h : zH} {Q : zR → Prop}  (hv0 : zHv h) (e7 : h 0 7 = (2, 39)) (em : h 0 10 = (0, 2))
    (k0 : Q (zset (zcopy (zcopy (zcopy (zcopy (zset (zset (zcopy (zcopy (zcopy (zcopy (zcopy (zcopy (zcopy (zcopy (zcopy (zset (zset (zset (zset (zset (zset h 0 10 (0, 1)) 39 0 (0, (h 70 0).2)) 39 1 (0, (h 70 1).2)) 39 2 (0, (h 70 2).2)) 39 3 (0, (h 70 3).2)) 39 4 (0, (h 70 4).2)) 71 0 40 0 48) 72 0 41 0 48) 73 0 42 0 144) 74 0 43 0 6) 75 0 44 0 6) 76 0 45 0 6) 77 0 46 0 6) 78 0 47 0 6) 79 0 48 0 6) 49 0 (0, (h 80 0).2)) 49 1 (0, (h 80 1).2)) 81 0 50 0 60) 82 0 51 0 60) 83 0 52 0 60) 84 0 53 0 60) 0 0 (0, 0), some (0, 1))) :
    vP D T N 144 0 h [some (2, 0)] [] Q := by
  refine v_load (v := (2, 0)) (hi_X11_back_0 hT) rfl rfl ?_
  refine v_getf (v := (0, 2)) (r := 0) (hi_X11_back_1 hT) rfl rfl (fun _ => em) ?_
  refine v_if (hi_X11_back_4 hT) (fun _ => ?_) (fun hc1 => absurd (show 0 < (2 : Int) from (by decide)) hc1)
  refine v_load (v := (2, 0)) (hi_X11_back_14 hT) rfl rfl ?_
  refine v_dup (hi_X11_back_15 hT) (Nat.ne_of_beq_eq_false rfl) ?_
  refine v_getf (v := (0, 2)) (r := 0) (hi_X11_back_16 hT) rfl rfl (fun _ => em) ?_
  refine v_push (1) (hi_X11_back_19 hT) rfl ?_
  refine v_bin (w := 1) (hi_X11_back_20 hT) (by decide) ?_
  refine v_putf (r := 0) hO (hi_X11_back_21 hT) rfl (fun hf2 => ?_)
  refine v_load (v := (2, 0)) (hi_X11_back_24 hT) rfl rfl ?_
  refine v_getf (v := (2, 39)) (r := 0) (hi_X11_back_25 hT) rfl rfl (fun _ => Eq.trans (zset_ne (fun c => absurd c.2 (by decide))) (e7)) ?_
  refine v_load (v := (2, 0)) (hi_X11_back_28 hT) rfl rfl ?_
  refine v_getR (c := 54) (r := 0) (hi_X11_back_29 hT) rfl rfl rfl ?_
  refine v_load (v := (2, 0)) (hi_X11_back_32 hT) rfl rfl ?_
  refine v_getf (v := (0, 1)) (r := 0) (hi_X11_back_33 hT) rfl rfl (fun _ => zset_same) ?_
  refine v_aldV (v := (2, 70)) (r := 54) (hi_X11_back_36 hT) rfl rfl (fun hv _ _ => hv.ref rfl) (fun ha3 hb4 => ?_)
  refine v_call (w := 2) [some (2, 39), some (2, 70)] hO (hi_X11_back_37 hT) rfl rfl ?_
  refine v_load (v := (2, 39)) (hi_X2_becomeLike_0 hT) rfl rfl ?_
  refine v_load (v := (2, 70)) (hi_X2_becomeLike_1 hT) rfl rfl ?_
  refine v_getf (v := (0, (h 70 0).2)) (r := 70) (hi_X2_becomeLike_2 hT) rfl rfl (fun hv_ => Eq.trans (zset_ne (fun c => absurd c.1 (by decide))) (hv0.at rfl)) ?_
  refine v_putf (r := 39) hO (hi_X2_becomeLike_5 hT) rfl (fun hf5 => ?_)
  refine v_load (v := (2, 39)) (hi_X2_becomeLike_8 hT) rfl rfl ?_
  refine v_load (v := (2, 70)) (hi_X2_becomeLike_9 hT) rfl rfl ?_
  refine v_getf (v := (0, (h 70 1).2)) (r := 70) (hi_X2_becomeLike_10 hT) rfl rfl (fun hv_ => Eq.trans (Eq.trans (zset_ne (fun c => absurd c.1 (by decide))) (zset_ne (fun c => absurd c.1 (by decide)))) (hv0.at rfl)) ?_
  refine v_putf (r := 39) hO (hi_X2_becomeLike_13 hT) rfl (fun hf6 => ?_)
  refine v_load (v := (2, 39)) (hi_X2_becomeLike_16 hT) rfl rfl ?_
  refine v_load (v := (2, 70)) (hi_X2_becomeLike_17 hT) rfl rfl ?_
  refine v_getf (v := (0, (h 70 2).2)) (r := 70) (hi_X2_becomeLike_18 hT) rfl rfl (fun hv_ => Eq.trans (Eq.trans (zset_ne (fun c => absurd c.1 (by decide))) (Eq.trans (zset_ne (fun c => absurd c.1 (by decide))) (zset_ne (fun c => absurd c.1 (by decide))))) (hv0.at rfl)) ?_
  refine v_putf (r := 39) hO (hi_X2_becomeLike_21 hT) rfl (fun hf7 => ?_)
  refine v_load (v := (2, 39)) (hi_X2_becomeLike_24 hT) rfl rfl ?_
  refine v_load (v := (2, 70)) (hi_X2_becomeLike_25 hT) rfl rfl ?_
  refine v_getf (v := (0, (h 70 3).2)) (r := 70) (hi_X2_becomeLike_26 hT) rfl rfl (fun hv_ => Eq.trans (Eq.trans (zset_ne (fun c => absurd c.1 (by decide))) (Eq.trans (zset_ne (fun c => absurd c.1 (by decide))) (Eq.trans (zset_ne (fun c => absurd c.1 (by decide))) (zset_ne (fun c => absurd c.1 (by decide)))))) (hv0.at rfl)) ?_
  refine v_putf (r := 39) hO (hi_X2_becomeLike_29 hT) rfl (fun hf8 => ?_)
  refine v_load (v := (2, 39)) (hi_X2_becomeLike_32 hT) rfl rfl ?_
  refine v_load (v := (2, 70)) (hi_X2_becomeLike_33 hT) rfl rfl ?_
  refine v_getf (v := (0, (h 70 4).2)) (r := 70) (hi_X2_becomeLike_34 hT) rfl rfl (fun hv_ => Eq.trans (Eq.trans (zset_ne (fun c => absurd c.1 (by decide))) (Eq.trans (zset_ne (fun c => absurd c.1 (by decide))) (Eq.trans (zset_ne (fun c => absurd c.1 (by decide))) (Eq.trans (zset_ne (fun c => absurd c.1 (by decide))) (zset_ne (fun c => absurd c.1 (by decide))))))) (hv0.at rfl)) ?_
  refine v_putf (r := 39) hO (hi_X2_becomeLike_37 hT) rfl (fun hf9 => ?_)
  refine v_load (v := (2, 70)) (hi_X2_becomeLike_40 hT) rfl rfl ?_
  refine v_getR (c := 71) (r := 70) (hi_X2_becomeLike_41 hT) rfl rfl rfl ?_
  refine v_push (0) (hi_X2_becomeLike_44 hT) rfl ?_
  refine v_load (v := (2, 39)) (hi_X2_becomeLike_45 hT) rfl rfl ?_
  refine v_getR (c := 40) (r := 39) (hi_X2_becomeLike_46 hT) rfl rfl rfl ?_
  refine v_push (0) (hi_X2_becomeLike_49 hT) rfl ?_
  refine v_push (48) (hi_X2_becomeLike_50 hT) rfl ?_
  refine v_copy (r0 := 71) (r1 := 40) (hi_X2_becomeLike_52 hT) rfl rfl rfl rfl (fun hd10 hd11 hd12 hd13 hd14 => ?_)
  refine v_load (v := (2, 70)) (hi_X2_becomeLike_55 hT) rfl rfl ?_
  refine v_getR (c := 72) (r := 70) (hi_X2_becomeLike_56 hT) rfl rfl rfl ?_
  refine v_push (0) (hi_X2_becomeLike_59 hT) rfl ?_
  refine v_load (v := (2, 39)) (hi_X2_becomeLike_60 hT) rfl rfl ?_
  refine v_getR (c := 41) (r := 39) (hi_X2_becomeLike_61 hT) rfl rfl rfl ?_
  refine v_push (0) (hi_X2_becomeLike_64 hT) rfl ?_
  refine v_push (48) (hi_X2_becomeLike_65 hT) rfl ?_
  refine v_copy (r0 := 72) (r1 := 41) (hi_X2_becomeLike_67 hT) rfl rfl rfl rfl (fun hd15 hd16 hd17 hd18 hd19 => ?_)
  refine v_load (v := (2, 70)) (hi_X2_becomeLike_70 hT) rfl rfl ?_
  refine v_getR (c := 73) (r := 70) (hi_X2_becomeLike_71 hT) rfl rfl rfl ?_
  refine v_push (0) (hi_X2_becomeLike_74 hT) rfl ?_
  refine v_load (v := (2, 39)) (hi_X2_becomeLike_75 hT) rfl rfl ?_
  refine v_getR (c := 42) (r := 39) (hi_X2_becomeLike_76 hT) rfl rfl rfl ?_
  refine v_push (0) (hi_X2_becomeLike_79 hT) rfl ?_
  refine v_push (144) (hi_X2_becomeLike_80 hT) rfl ?_
  refine v_copy (r0 := 73) (r1 := 42) (hi_X2_becomeLike_83 hT) rfl rfl rfl rfl (fun hd20 hd21 hd22 hd23 hd24 => ?_)
  refine v_load (v := (2, 70)) (hi_X2_becomeLike_86 hT) rfl rfl ?_
  refine v_getR (c := 74) (r := 70) (hi_X2_becomeLike_87 hT) rfl rfl rfl ?_
  refine v_push (0) (hi_X2_becomeLike_90 hT) rfl ?_
  refine v_load (v := (2, 39)) (hi_X2_becomeLike_91 hT) rfl rfl ?_
  refine v_getR (c := 43) (r := 39) (hi_X2_becomeLike_92 hT) rfl rfl rfl ?_
  refine v_push (0) (hi_X2_becomeLike_95 hT) rfl ?_
  refine v_push (6) (hi_X2_becomeLike_96 hT) rfl ?_
  refine v_copy (r0 := 74) (r1 := 43) (hi_X2_becomeLike_98 hT) rfl rfl rfl rfl (fun hd25 hd26 hd27 hd28 hd29 => ?_)
  refine v_load (v := (2, 70)) (hi_X2_becomeLike_101 hT) rfl rfl ?_
  refine v_getR (c := 75) (r := 70) (hi_X2_becomeLike_102 hT) rfl rfl rfl ?_
  refine v_push (0) (hi_X2_becomeLike_105 hT) rfl ?_
  refine v_load (v := (2, 39)) (hi_X2_becomeLike_106 hT) rfl rfl ?_
  refine v_getR (c := 44) (r := 39) (hi_X2_becomeLike_107 hT) rfl rfl rfl ?_
  refine v_push (0) (hi_X2_becomeLike_110 hT) rfl ?_
  refine v_push (6) (hi_X2_becomeLike_111 hT) rfl ?_
  refine v_copy (r0 := 75) (r1 := 44) (hi_X2_becomeLike_113 hT) rfl rfl rfl rfl (fun hd30 hd31 hd32 hd33 hd34 => ?_)
  refine v_load (v := (2, 70)) (hi_X2_becomeLike_116 hT) rfl rfl ?_
  refine v_getR (c := 76) (r := 70) (hi_X2_becomeLike_117 hT) rfl rfl rfl ?_
  refine v_push (0) (hi_X2_becomeLike_120 hT) rfl ?_
  refine v_load (v := (2, 39)) (hi_X2_becomeLike_121 hT) rfl rfl ?_
  refine v_getR (c := 45) (r := 39) (hi_X2_becomeLike_122 hT) rfl rfl rfl ?_
  refine v_push (0) (hi_X2_becomeLike_125 hT) rfl ?_
  refine v_push (6) (hi_X2_becomeLike_126 hT) rfl ?_
  refine v_copy (r0 := 76) (r1 := 45) (hi_X2_becomeLike_128 hT) rfl rfl rfl rfl (fun hd35 hd36 hd37 hd38 hd39 => ?_)
  refine v_load (v := (2, 70)) (hi_X2_becomeLike_131 hT) rfl rfl ?_
  refine v_getR (c := 77) (r := 70) (hi_X2_becomeLike_132 hT) rfl rfl rfl ?_
  refine v_push (0) (hi_X2_becomeLike_135 hT) rfl ?_
  refine v_load (v := (2, 39)) (hi_X2_becomeLike_136 hT) rfl rfl ?_
  refine v_getR (c := 46) (r := 39) (hi_X2_becomeLike_137 hT) rfl rfl rfl ?_
  refine v_push (0) (hi_X2_becomeLike_140 hT) rfl ?_
  refine v_push (6) (hi_X2_becomeLike_141 hT) rfl ?_
  refine v_copy (r0 := 77) (r1 := 46) (hi_X2_becomeLike_143 hT) rfl rfl rfl rfl (fun hd40 hd41 hd42 hd43 hd44 => ?_)
  refine v_load (v := (2, 70)) (hi_X2_becomeLike_146 hT) rfl rfl ?_
  refine v_getR (c := 78) (r := 70) (hi_X2_becomeLike_147 hT) rfl rfl rfl ?_
  refine v_push (0) (hi_X2_becomeLike_150 hT) rfl ?_
  refine v_load (v := (2, 39)) (hi_X2_becomeLike_151 hT) rfl rfl ?_
  refine v_getR (c := 47) (r := 39) (hi_X2_becomeLike_152 hT) rfl rfl rfl ?_
  refine v_push (0) (hi_X2_becomeLike_155 hT) rfl ?_
  refine v_push (6) (hi_X2_becomeLike_156 hT) rfl ?_
  refine v_copy (r0 := 78) (r1 := 47) (hi_X2_becomeLike_158 hT) rfl rfl rfl rfl (fun hd45 hd46 hd47 hd48 hd49 => ?_)
  refine v_load (v := (2, 70)) (hi_X2_becomeLike_161 hT) rfl rfl ?_
  refine v_getR (c := 79) (r := 70) (hi_X2_becomeLike_162 hT) rfl rfl rfl ?_
  refine v_push (0) (hi_X2_becomeLike_165 hT) rfl ?_
  refine v_load (v := (2, 39)) (hi_X2_becomeLike_166 hT) rfl rfl ?_
  refine v_getR (c := 48) (r := 39) (hi_X2_becomeLike_167 hT) rfl rfl rfl ?_
  refine v_push (0) (hi_X2_becomeLike_170 hT) rfl ?_
  refine v_push (6) (hi_X2_becomeLike_171 hT) rfl ?_
  refine v_copy (r0 := 79) (r1 := 48) (hi_X2_becomeLike_173 hT) rfl rfl rfl rfl (fun hd50 hd51 hd52 hd53 hd54 => ?_)
  refine v_load (v := (2, 39)) (hi_X2_becomeLike_176 hT) rfl rfl ?_
  refine v_getR (c := 49) (r := 39) (hi_X2_becomeLike_177 hT) rfl rfl rfl ?_
  refine v_load (v := (2, 70)) (hi_X2_becomeLike_180 hT) rfl rfl ?_
  refine v_getR (c := 80) (r := 70) (hi_X2_becomeLike_181 hT) rfl rfl rfl ?_
  refine v_call (w := 2) [some (2, 49), some (2, 80)] hO (hi_X2_becomeLike_184 hT) rfl rfl ?_
  refine v_load (v := (2, 49)) (hi_X5_becomeLike_0 hT) rfl rfl ?_
  refine v_load (v := (2, 80)) (hi_X5_becomeLike_1 hT) rfl rfl ?_
  refine v_getf (v := (0, (h 80 0).2)) (r := 80) (hi_X5_becomeLike_2 hT) rfl rfl (fun hv_ => Eq.trans (Eq.trans (vcopy_ne (fun c => absurd c.1 (by decide))) (Eq.trans (vcopy_ne (fun c => absurd c.1 (by decide))) (Eq.trans (vcopy_ne (fun c => absurd c.1 (by decide))) (Eq.trans (vcopy_ne (fun c => absurd c.1 (by decide))) (Eq.trans (vcopy_ne (fun c => absurd c.1 (by decide))) (Eq.trans (vcopy_ne (fun c => absurd c.1 (by decide))) (Eq.trans (vcopy_ne (fun c => absurd c.1 (by decide))) (Eq.trans (vcopy_ne (fun c => absurd c.1 (by decide))) (Eq.trans (vcopy_ne (fun c => absurd c.1 (by decide))) (Eq.trans (zset_ne (fun c => absurd c.1 (by decide))) (Eq.trans (zset_ne (fun c => absurd c.1 (by decide))) (Eq.trans (zset_ne (fun c => absurd c.1 (by decide))) (Eq.trans (zset_ne (fun c => absurd c.1 (by decide))) (Eq.trans (zset_ne (fun c => absurd c.1 (by decide))) (zset_ne (fun c => absurd c.1 (by decide))))))))))))))))) (hv0.at rfl)) ?_
  refine v_putf (r := 49) hO (hi_X5_becomeLike_5 hT) rfl (fun hf55 => ?_)
  refine v_load (v := (2, 49)) (hi_X5_becomeLike_8 hT) rfl rfl ?_
  refine v_load (v := (2, 80)) (hi_X5_becomeLike_9 hT) rfl rfl ?_
  refine v_getf (v := (0, (h 80 1).2)) (r := 80) (hi_X5_becomeLike_10 hT) rfl rfl (fun hv_ => Eq.trans (Eq.trans (zset_ne (fun c => absurd c.1 (by decide))) (Eq.trans (vcopy_ne (fun c => absurd c.1 (by decide))) (Eq.trans (vcopy_ne (fun c => absurd c.1 (by decide))) (Eq.trans (vcopy_ne (fun c => absurd c.1 (by decide))) (Eq.trans (vcopy_ne (fun c => absurd c.1 (by decide))) (Eq.trans (vcopy_ne (fun c => absurd c.1 (by decide))) (Eq.trans (vcopy_ne (fun c => absurd c.1 (by decide))) (Eq.trans (vcopy_ne (fun c => absurd c.1 (by decide))) (Eq.trans (vcopy_ne (fun c => absurd c.1 (by decide))) (Eq.trans (vcopy_ne (fun c => absurd c.1 (by decide))) (Eq.trans (zset_ne (fun c => absurd c.1 (by decide))) (Eq.trans (zset_ne (fun c => absurd c.1 (by decide))) (Eq.trans (zset_ne (fun c => absurd c.1 (by decide))) (Eq.trans (zset_ne (fun c => absurd c.1 (by decide))) (Eq.trans (zset_ne (fun c => absurd c.1 (by decide))) (zset_ne (fun c => absurd c.1 (by decide)))))))))))))))))) (hv0.at rfl)) ?_
  refine v_putf (r := 49) hO (hi_X5_becomeLike_13 hT) rfl (fun hf56 => ?_)
  refine v_load (v := (2, 80)) (hi_X5_becomeLike_16 hT) rfl rfl ?_
  refine v_getR (c := 81) (r := 80) (hi_X5_becomeLike_17 hT) rfl rfl rfl ?_
  refine v_push (0) (hi_X5_becomeLike_20 hT) rfl ?_
  refine v_load (v := (2, 49)) (hi_X5_becomeLike_21 hT) rfl rfl ?_
  refine v_getR (c := 50) (r := 49) (hi_X5_becomeLike_22 hT) rfl rfl rfl ?_
  refine v_push (0) (hi_X5_becomeLike_25 hT) rfl ?_
  refine v_push (60) (hi_X5_becomeLike_26 hT) rfl ?_
  refine v_copy (r0 := 81) (r1 := 50) (hi_X5_becomeLike_28 hT) rfl rfl rfl rfl (fun hd57 hd58 hd59 hd60 hd61 => ?_)
  refine v_load (v := (2, 80)) (hi_X5_becomeLike_31 hT) rfl rfl ?_
  refine v_getR (c := 82) (r := 80) (hi_X5_becomeLike_32 hT) rfl rfl rfl ?_
  refine v_push (0) (hi_X5_becomeLike_35 hT) rfl ?_
  refine v_load (v := (2, 49)) (hi_X5_becomeLike_36 hT) rfl rfl ?_
  refine v_getR (c := 51) (r := 49) (hi_X5_becomeLike_37 hT) rfl rfl rfl ?_
  refine v_push (0) (hi_X5_becomeLike_40 hT) rfl ?_
  refine v_push (60) (hi_X5_becomeLike_41 hT) rfl ?_
  refine v_copy (r0 := 82) (r1 := 51) (hi_X5_becomeLike_43 hT) rfl rfl rfl rfl (fun hd62 hd63 hd64 hd65 hd66 => ?_)
  refine v_load (v := (2, 80)) (hi_X5_becomeLike_46 hT) rfl rfl ?_
  refine v_getR (c := 83) (r := 80) (hi_X5_becomeLike_47 hT) rfl rfl rfl ?_
  refine v_push (0) (hi_X5_becomeLike_50 hT) rfl ?_
  refine v_load (v := (2, 49)) (hi_X5_becomeLike_51 hT) rfl rfl ?_
  refine v_getR (c := 52) (r := 49) (hi_X5_becomeLike_52 hT) rfl rfl rfl ?_
  refine v_push (0) (hi_X5_becomeLike_55 hT) rfl ?_
  refine v_push (60) (hi_X5_becomeLike_56 hT) rfl ?_
  refine v_copy (r0 := 83) (r1 := 52) (hi_X5_becomeLike_58 hT) rfl rfl rfl rfl (fun hd67 hd68 hd69 hd70 hd71 => ?_)
  refine v_load (v := (2, 80)) (hi_X5_becomeLike_61 hT) rfl rfl ?_
  refine v_getR (c := 84) (r := 80) (hi_X5_becomeLike_62 hT) rfl rfl rfl ?_
  refine v_push (0) (hi_X5_becomeLike_65 hT) rfl ?_
  refine v_load (v := (2, 49)) (hi_X5_becomeLike_66 hT) rfl rfl ?_
  refine v_getR (c := 53) (r := 49) (hi_X5_becomeLike_67 hT) rfl rfl rfl ?_
  refine v_push (0) (hi_X5_becomeLike_70 hT) rfl ?_
  refine v_push (60) (hi_X5_becomeLike_71 hT) rfl ?_
  refine v_copy (r0 := 84) (r1 := 53) (hi_X5_becomeLike_73 hT) rfl rfl rfl rfl (fun hd72 hd73 hd74 hd75 hd76 => ?_)
  refine v_ret0 (hi_X5_becomeLike_76 hT) ?_
  show vP D T N 25 187 (zcopy (zcopy (zcopy (zcopy (zset (zset (zcopy (zcopy (zcopy (zcopy (zcopy (zcopy (zcopy (zcopy (zcopy (zset (zset (zset (zset (zset (zset h 0 10 (0, 1)) 39 0 (0, (h 70 0).2)) 39 1 (0, (h 70 1).2)) 39 2 (0, (h 70 2).2)) 39 3 (0, (h 70 3).2)) 39 4 (0, (h 70 4).2)) 71 0 40 0 48) 72 0 41 0 48) 73 0 42 0 144) 74 0 43 0 6) 75 0 44 0 6) 76 0 45 0 6) 77 0 46 0 6) 78 0 47 0 6) 79 0 48 0 6) 49 0 (0, (h 80 0).2)) 49 1 (0, (h 80 1).2)) 81 0 50 0 60) 82 0 51 0 60) 83 0 52 0 60) 84 0 53 0 60) [some (2, 39), some (2, 70)] [] _
  refine v_ret0 (hi_X2_becomeLike_187 hT) ?_
  show vP D T N 144 40 (zcopy (zcopy (zcopy (zcopy (zset (zset (zcopy (zcopy (zcopy (zcopy (zcopy (zcopy (zcopy (zcopy (zcopy (zset (zset (zset (zset (zset (zset h 0 10 (0, 1)) 39 0 (0, (h 70 0).2)) 39 1 (0, (h 70 1).2)) 39 2 (0, (h 70 2).2)) 39 3 (0, (h 70 3).2)) 39 4 (0, (h 70 4).2)) 71 0 40 0 48) 72 0 41 0 48) 73 0 42 0 144) 74 0 43 0 6) 75 0 44 0 6) 76 0 45 0 6) 77 0 46 0 6) 78 0 47 0 6) 79 0 48 0 6) 49 0 (0, (h 80 0).2)) 49 1 (0, (h 80 1).2)) 81 0 50 0 60) 82 0 51 0 60) 83 0 52 0 60) 84 0 53 0 60) [some (2, 0)] [] _
  refine v_load (v := (2, 0)) (hi_X11_back_40 hT) rfl rfl ?_
  refine v_load (v := (2, 0)) (hi_X11_back_41 hT) rfl rfl ?_
  refine v_getf (v := (0, 1)) (r := 0) (hi_X11_back_42 hT) rfl rfl (fun _ => Eq.trans (Eq.trans (vcopy_ne (fun c => absurd c.1 (by decide))) (Eq.trans (vcopy_ne (fun c => absurd c.1 (by decide))) (Eq.trans (vcopy_ne (fun c => absurd c.1 (by decide))) (Eq.trans (vcopy_ne (fun c => absurd c.1 (by decide))) (Eq.trans (zset_ne (fun c => absurd c.1 (by decide))) (Eq.trans (zset_ne (fun c => absurd c.1 (by decide))) (Eq.trans (vcopy_ne (fun c => absurd c.1 (by decide))) (Eq.trans (vcopy_ne (fun c => absurd c.1 (by decide))) (Eq.trans (vcopy_ne (fun c => absurd c.1 (by decide))) (Eq.trans (vcopy_ne (fun c => absurd c.1 (by decide))) (Eq.trans (vcopy_ne (fun c => absurd c.1 (by decide))) (Eq.trans (vcopy_ne (fun c => absurd c.1 (by decide))) (Eq.trans (vcopy_ne (fun c => absurd c.1 (by decide))) (Eq.trans (vcopy_ne (fun c => absurd c.1 (by decide))) (Eq.trans (vcopy_ne (fun c => absurd c.1 (by decide))) (Eq.trans (zset_ne (fun c => absurd c.1 (by decide))) (Eq.trans (zset_ne (fun c => absurd c.1 (by decide))) (Eq.trans (zset_ne (fun c => absurd c.1 (by decide))) (Eq.trans (zset_ne (fun c => absurd c.1 (by decide))) (zset_ne (fun c => absurd c.1 (by decide)))))))))))))))))))))) zset_same) ?_
  refine v_call (w := 2) [some (2, 0), some (0, 1)] hO (hi_X11_back_45 hT) rfl rfl ?_
  refine v_load (v := (2, 0)) (hi_X11_answer_0 hT) rfl rfl ?_
  refine v_push (0) (hi_X11_answer_1 hT) rfl ?_
  refine v_putf (r := 0) hO (hi_X11_answer_2 hT) rfl (fun hf77 => ?_)
  refine v_load (v := (0, 1)) (hi_X11_answer_5 hT) rfl rfl ?_
  refine v_ret (hi_X11_answer_6 hT) (Or.inl rfl) ?_
  show vP D T N 144 48 (zset (zcopy (zcopy (zcopy (zcopy (zset (zset (zcopy (zcopy (zcopy (zcopy (zcopy (zcopy (zcopy (zcopy (zcopy (zset (zset (zset (zset (zset (zset h 0 10 (0, 1)) 39 0 (0, (h 70 0).2)) 39 1 (0, (h 70 1).2)) 39 2 (0, (h 70 2).2)) 39 3 (0, (h 70 3).2)) 39 4 (0, (h 70 4).2)) 71 0 40 0 48) 72 0 41 0 48) 73 0 42 0 144) 74 0 43 0 6) 75 0 44 0 6) 76 0 45 0 6) 77 0 46 0 6) 78 0 47 0 6) 79 0 48 0 6) 49 0 (0, (h 80 0).2)) 49 1 (0, (h 80 1).2)) 81 0 50 0 60) 82 0 51 0 60) 83 0 52 0 60) 84 0 53 0 60) 0 0 (0, 0)) [some (2, 0)] [(0, 1)] _
  refine v_ret (hi_X11_back_48 hT) (Or.inl rfl) ?_
  exact k0 
theorem qc_mark_39_2 {D : zD} {T : zT} (hT : hTab T) (hO : vOK T) {N : Nat} {h : zH} {Q : zR → Prop}  (hv0 : zHv h) (e7 : h 0 7 = (2, 39)) (em : h 0 10 = (0, 2))
    (k0 : Q (zset (zset (zcopy (zcopy (zcopy (zcopy (zset (zset (zcopy (zcopy (zcopy (zcopy (zcopy (zcopy (zcopy (zcopy (zcopy (zset (zset (zset (zset (zset h 85 0 (0, (h 39 0).2)) 85 1 (0, (h 39 1).2)) 85 2 (0, (h 39 2).2)) 85 3 (0, (h 39 3).2)) 85 4 (0, (h 39 4).2)) 40 0 86 0 48) 41 0 87 0 48) 42 0 88 0 144) 43 0 89 0 6) 44 0 90 0 6) 45 0 91 0 6) 46 0 92 0 6) 47 0 93 0 6) 48 0 94 0 6) 95 0 (0, (h 49 0).2)) 95 1 (0, (h 49 1).2)) 50 0 96 0 60) 51 0 97 0 60) 52 0 98 0 60) 53 0 99 0 60) 0 10 (0, 3)) 0 0 (0, 0), some (0, 3))) :
    vP D T N 165 0 h [some (2, 0)] [] Q := by
  refine v_load (v := (2, 0)) (hi_X11_mark_0 hT) rfl rfl ?_
  refine v_getf (v := (0, 2)) (r := 0) (hi_X11_mark_1 hT) rfl rfl (fun _ => em) ?_
  refine v_push (3) (hi_X11_mark_4 hT) rfl ?_
  refine v_ic (hi_X11_mark_5 hT) (fun _ => ?_) (fun hc1 => absurd (show (2 : Int) < 3 from (by decide)) hc1)
  refine v_load (v := (2, 0)) (hi_X11_mark_15 hT) rfl rfl ?_
  refine v_getR (c := 54) (r := 0) (hi_X11_mark_16 hT) rfl rfl rfl ?_
  refine v_load (v := (2, 0)) (hi_X11_mark_19 hT) rfl rfl ?_
  refine v_getf (v := (0, 2)) (r := 0) (hi_X11_mark_20 hT) rfl rfl (fun _ => em) ?_
  refine v_aldV (v := (2, 85)) (r := 54) (hi_X11_mark_23 hT) rfl rfl (fun hv _ _ => hv.ref rfl) (fun ha2 hb3 => ?_)
  refine v_load (v := (2, 0)) (hi_X11_mark_24 hT) rfl rfl ?_
  refine v_getf (v := (2, 39)) (r := 0) (hi_X11_mark_25 hT) rfl rfl (fun _ => e7) ?_
  refine v_call (w := 2) [some (2, 85), some (2, 39)] hO (hi_X11_mark_28 hT) rfl rfl ?_
  refine v_load (v := (2, 85)) (hi_X2_becomeLike_0 hT) rfl rfl ?_
  refine v_load (v := (2, 39)) (hi_X2_becomeLike_1 hT) rfl rfl ?_
  refine v_getI (t := 0) (r := 39) (hi_X2_becomeLike_2 hT) rfl rfl rfl ?_
  refine v_putf (r := 85) hO (hi_X2_becomeLike_5 hT) rfl (fun hf4 => ?_)
  refine v_load (v := (2, 85)) (hi_X2_becomeLike_8 hT) rfl rfl ?_
  refine v_load (v := (2, 39)) (hi_X2_becomeLike_9 hT) rfl rfl ?_
  refine v_getf (v := (0, (h 39 1).2)) (r := 39) (hi_X2_becomeLike_10 hT) rfl rfl (fun hv_ => Eq.trans (zset_ne (fun c => absurd c.1 (by decide))) (hv0.at rfl)) ?_
  refine v_putf (r := 85) hO (hi_X2_becomeLike_13 hT) rfl (fun hf5 => ?_)
  refine v_load (v := (2, 85)) (hi_X2_becomeLike_16 hT) rfl rfl ?_
  refine v_load (v := (2, 39)) (hi_X2_becomeLike_17 hT) rfl rfl ?_
  refine v_getf (v := (0, (h 39 2).2)) (r := 39) (hi_X2_becomeLike_18 hT) rfl rfl (fun hv_ => Eq.trans (Eq.trans (zset_ne (fun c => absurd c.1 (by decide))) (zset_ne (fun c => absurd c.1 (by decide)))) (hv0.at rfl)) ?_
  refine v_putf (r := 85) hO (hi_X2_becomeLike_21 hT) rfl (fun hf6 => ?_)
  refine v_load (v := (2, 85)) (hi_X2_becomeLike_24 hT) rfl rfl ?_
  refine v_load (v := (2, 39)) (hi_X2_becomeLike_25 hT) rfl rfl ?_
  refine v_getf (v := (0, (h 39 3).2)) (r := 39) (hi_X2_becomeLike_26 hT) rfl rfl (fun hv_ => Eq.trans (Eq.trans (zset_ne (fun c => absurd c.1 (by decide))) (Eq.trans (zset_ne (fun c => absurd c.1 (by decide))) (zset_ne (fun c => absurd c.1 (by decide))))) (hv0.at rfl)) ?_
  refine v_putf (r := 85) hO (hi_X2_becomeLike_29 hT) rfl (fun hf7 => ?_)
  refine v_load (v := (2, 85)) (hi_X2_becomeLike_32 hT) rfl rfl ?_
  refine v_load (v := (2, 39)) (hi_X2_becomeLike_33 hT) rfl rfl ?_
  refine v_getf (v := (0, (h 39 4).2)) (r := 39) (hi_X2_becomeLike_34 hT) rfl rfl (fun hv_ => Eq.trans (Eq.trans (zset_ne (fun c => absurd c.1 (by decide))) (Eq.trans (zset_ne (fun c => absurd c.1 (by decide))) (Eq.trans (zset_ne (fun c => absurd c.1 (by decide))) (zset_ne (fun c => absurd c.1 (by decide)))))) (hv0.at rfl)) ?_
  refine v_putf (r := 85) hO (hi_X2_becomeLike_37 hT) rfl (fun hf8 => ?_)
  refine v_load (v := (2, 39)) (hi_X2_becomeLike_40 hT) rfl rfl ?_
  refine v_getR (c := 40) (r := 39) (hi_X2_becomeLike_41 hT) rfl rfl rfl ?_
  refine v_push (0) (hi_X2_becomeLike_44 hT) rfl ?_
  refine v_load (v := (2, 85)) (hi_X2_becomeLike_45 hT) rfl rfl ?_
  refine v_getR (c := 86) (r := 85) (hi_X2_becomeLike_46 hT) rfl rfl rfl ?_
  refine v_push (0) (hi_X2_becomeLike_49 hT) rfl ?_
  refine v_push (48) (hi_X2_becomeLike_50 hT) rfl ?_
  refine v_copy (r0 := 40) (r1 := 86) (hi_X2_becomeLike_52 hT) rfl rfl rfl rfl (fun hd9 hd10 hd11 hd12 hd13 => ?_)
  refine v_load (v := (2, 39)) (hi_X2_becomeLike_55 hT) rfl rfl ?_
  refine v_getR (c := 41) (r := 39) (hi_X2_becomeLike_56 hT) rfl rfl rfl ?_
  refine v_push (0) (hi_X2_becomeLike_59 hT) rfl ?_
  refine v_load (v := (2, 85)) (hi_X2_becomeLike_60 hT) rfl rfl ?_
  refine v_getR (c := 87) (r := 85) (hi_X2_becomeLike_61 hT) rfl rfl rfl ?_
  refine v_push (0) (hi_X2_becomeLike_64 hT) rfl ?_
  refine v_push (48) (hi_X2_becomeLike_65 hT) rfl ?_
  refine v_copy (r0 := 41) (r1 := 87) (hi_X2_becomeLike_67 hT) rfl rfl rfl rfl (fun hd14 hd15 hd16 hd17 hd18 => ?_)
  refine v_load (v := (2, 39)) (hi_X2_becomeLike_70 hT) rfl rfl ?_
  refine v_getR (c := 42) (r := 39) (hi_X2_becomeLike_71 hT) rfl rfl rfl ?_
  refine v_push (0) (hi_X2_becomeLike_74 hT) rfl ?_
  refine v_load (v := (2, 85)) (hi_X2_becomeLike_75 hT) rfl rfl ?_
  refine v_getR (c := 88) (r := 85) (hi_X2_becomeLike_76 hT) rfl rfl rfl ?_
  refine v_push (0) (hi_X2_becomeLike_79 hT) rfl ?_
  refine v_push (144) (hi_X2_becomeLike_80 hT) rfl ?_
  refine v_copy (r0 := 42) (r1 := 88) (hi_X2_becomeLike_83 hT) rfl rfl rfl rfl (fun hd19 hd20 hd21 hd22 hd23 => ?_)
  refine v_load (v := (2, 39)) (hi_X2_becomeLike_86 hT) rfl rfl ?_
  refine v_getR (c := 43) (r := 39) (hi_X2_becomeLike_87 hT) rfl rfl rfl ?_
  refine v_push (0) (hi_X2_becomeLike_90 hT) rfl ?_
  refine v_load (v := (2, 85)) (hi_X2_becomeLike_91 hT) rfl rfl ?_
  refine v_getR (c := 89) (r := 85) (hi_X2_becomeLike_92 hT) rfl rfl rfl ?_
  refine v_push (0) (hi_X2_becomeLike_95 hT) rfl ?_
  refine v_push (6) (hi_X2_becomeLike_96 hT) rfl ?_
  refine v_copy (r0 := 43) (r1 := 89) (hi_X2_becomeLike_98 hT) rfl rfl rfl rfl (fun hd24 hd25 hd26 hd27 hd28 => ?_)
  refine v_load (v := (2, 39)) (hi_X2_becomeLike_101 hT) rfl rfl ?_
  refine v_getR (c := 44) (r := 39) (hi_X2_becomeLike_102 hT) rfl rfl rfl ?_
  refine v_push (0) (hi_X2_becomeLike_105 hT) rfl ?_
  refine v_load (v := (2, 85)) (hi_X2_becomeLike_106 hT) rfl rfl ?_
  refine v_getR (c := 90) (r := 85) (hi_X2_becomeLike_107 hT) rfl rfl rfl ?_
  refine v_push (0) (hi_X2_becomeLike_110 hT) rfl ?_
  refine v_push (6) (hi_X2_becomeLike_111 hT) rfl ?_
  refine v_copy (r0 := 44) (r1 := 90) (hi_X2_becomeLike_113 hT) rfl rfl rfl rfl (fun hd29 hd30 hd31 hd32 hd33 => ?_)
  refine v_load (v := (2, 39)) (hi_X2_becomeLike_116 hT) rfl rfl ?_
  refine v_getR (c := 45) (r := 39) (hi_X2_becomeLike_117 hT) rfl rfl rfl ?_
  refine v_push (0) (hi_X2_becomeLike_120 hT) rfl ?_
  refine v_load (v := (2, 85)) (hi_X2_becomeLike_121 hT) rfl rfl ?_
  refine v_getR (c := 91) (r := 85) (hi_X2_becomeLike_122 hT) rfl rfl rfl ?_
  refine v_push (0) (hi_X2_becomeLike_125 hT) rfl ?_
  refine v_push (6) (hi_X2_becomeLike_126 hT) rfl ?_
  refine v_copy (r0 := 45) (r1 := 91) (hi_X2_becomeLike_128 hT) rfl rfl rfl rfl (fun hd34 hd35 hd36 hd37 hd38 => ?_)
  refine v_load (v := (2, 39)) (hi_X2_becomeLike_131 hT) rfl rfl ?_
  refine v_getR (c := 46) (r := 39) (hi_X2_becomeLike_132 hT) rfl rfl rfl ?_
  refine v_push (0) (hi_X2_becomeLike_135 hT) rfl ?_
  refine v_load (v := (2, 85)) (hi_X2_becomeLike_136 hT) rfl rfl ?_
  refine v_getR (c := 92) (r := 85) (hi_X2_becomeLike_137 hT) rfl rfl rfl ?_
  refine v_push (0) (hi_X2_becomeLike_140 hT) rfl ?_
  refine v_push (6) (hi_X2_becomeLike_141 hT) rfl ?_
  refine v_copy (r0 := 46) (r1 := 92) (hi_X2_becomeLike_143 hT) rfl rfl rfl rfl (fun hd39 hd40 hd41 hd42 hd43 => ?_)
  refine v_load (v := (2, 39)) (hi_X2_becomeLike_146 hT) rfl rfl ?_
  refine v_getR (c := 47) (r := 39) (hi_X2_becomeLike_147 hT) rfl rfl rfl ?_
  refine v_push (0) (hi_X2_becomeLike_150 hT) rfl ?_
  refine v_load (v := (2, 85)) (hi_X2_becomeLike_151 hT) rfl rfl ?_
  refine v_getR (c := 93) (r := 85) (hi_X2_becomeLike_152 hT) rfl rfl rfl ?_
  refine v_push (0) (hi_X2_becomeLike_155 hT) rfl ?_
  refine v_push (6) (hi_X2_becomeLike_156 hT) rfl ?_
  refine v_copy (r0 := 47) (r1 := 93) (hi_X2_becomeLike_158 hT) rfl rfl rfl rfl (fun hd44 hd45 hd46 hd47 hd48 => ?_)
  refine v_load (v := (2, 39)) (hi_X2_becomeLike_161 hT) rfl rfl ?_
  refine v_getR (c := 48) (r := 39) (hi_X2_becomeLike_162 hT) rfl rfl rfl ?_
  refine v_push (0) (hi_X2_becomeLike_165 hT) rfl ?_
  refine v_load (v := (2, 85)) (hi_X2_becomeLike_166 hT) rfl rfl ?_
  refine v_getR (c := 94) (r := 85) (hi_X2_becomeLike_167 hT) rfl rfl rfl ?_
  refine v_push (0) (hi_X2_becomeLike_170 hT) rfl ?_
  refine v_push (6) (hi_X2_becomeLike_171 hT) rfl ?_
  refine v_copy (r0 := 48) (r1 := 94) (hi_X2_becomeLike_173 hT) rfl rfl rfl rfl (fun hd49 hd50 hd51 hd52 hd53 => ?_)
  refine v_load (v := (2, 85)) (hi_X2_becomeLike_176 hT) rfl rfl ?_
  refine v_getR (c := 95) (r := 85) (hi_X2_becomeLike_177 hT) rfl rfl rfl ?_
  refine v_load (v := (2, 39)) (hi_X2_becomeLike_180 hT) rfl rfl ?_
  refine v_getR (c := 49) (r := 39) (hi_X2_becomeLike_181 hT) rfl rfl rfl ?_
  refine v_call (w := 2) [some (2, 95), some (2, 49)] hO (hi_X2_becomeLike_184 hT) rfl rfl ?_
  refine v_load (v := (2, 95)) (hi_X5_becomeLike_0 hT) rfl rfl ?_
  refine v_load (v := (2, 49)) (hi_X5_becomeLike_1 hT) rfl rfl ?_
  refine v_getf (v := (0, (h 49 0).2)) (r := 49) (hi_X5_becomeLike_2 hT) rfl rfl (fun hv_ => Eq.trans (Eq.trans (vcopy_ne (fun c => absurd c.1 (by decide))) (Eq.trans (vcopy_ne (fun c => absurd c.1 (by decide))) (Eq.trans (vcopy_ne (fun c => absurd c.1 (by decide))) (Eq.trans (vcopy_ne (fun c => absurd c.1 (by decide))) (Eq.trans (vcopy_ne (fun c => absurd c.1 (by decide))) (Eq.trans (vcopy_ne (fun c => absurd c.1 (by decide))) (Eq.trans (vcopy_ne (fun c => absurd c.1 (by decide))) (Eq.trans (vcopy_ne (fun c => absurd c.1 (by decide))) (Eq.trans (vcopy_ne (fun c => absurd c.1 (by decide))) (Eq.trans (zset_ne (fun c => absurd c.1 (by decide))) (Eq.trans (zset_ne (fun c => absurd c.1 (by decide))) (Eq.trans (zset_ne (fun c => absurd c.1 (by decide))) (Eq.trans (zset_ne (fun c => absurd c.1 (by decide))) (zset_ne (fun c => absurd c.1 (by decide)))))))))))))))) (hv0.at rfl)) ?_
  refine v_putf (r := 95) hO (hi_X5_becomeLike_5 hT) rfl (fun hf54 => ?_)
  refine v_load (v := (2, 95)) (hi_X5_becomeLike_8 hT) rfl rfl ?_
  refine v_load (v := (2, 49)) (hi_X5_becomeLike_9 hT) rfl rfl ?_
  refine v_getf (v := (0, (h 49 1).2)) (r := 49) (hi_X5_becomeLike_10 hT) rfl rfl (fun hv_ => Eq.trans (Eq.trans (zset_ne (fun c => absurd c.1 (by decide))) (Eq.trans (vcopy_ne (fun c => absurd c.1 (by decide))) (Eq.trans (vcopy_ne (fun c => absurd c.1 (by decide))) (Eq.trans (vcopy_ne (fun c => absurd c.1 (by decide))) (Eq.trans (vcopy_ne (fun c => absurd c.1 (by decide))) (Eq.trans (vcopy_ne (fun c => absurd c.1 (by decide))) (Eq.trans (vcopy_ne (fun c => absurd c.1 (by decide))) (Eq.trans (vcopy_ne (fun c => absurd c.1 (by decide))) (Eq.trans (vcopy_ne (fun c => absurd c.1 (by decide))) (Eq.trans (vcopy_ne (fun c => absurd c.1 (by decide))) (Eq.trans (zset_ne (fun c => absurd c.1 (by decide))) (Eq.trans (zset_ne (fun c => absurd c.1 (by decide))) (Eq.trans (zset_ne (fun c => absurd c.1 (by decide))) (Eq.trans (zset_ne (fun c => absurd c.1 (by decide))) (zset_ne (fun c => absurd c.1 (by decide))))))))))))))))) (hv0.at rfl)) ?_
  refine v_putf (r := 95) hO (hi_X5_becomeLike_13 hT) rfl (fun hf55 => ?_)
  refine v_load (v := (2, 49)) (hi_X5_becomeLike_16 hT) rfl rfl ?_
  refine v_getR (c := 50) (r := 49) (hi_X5_becomeLike_17 hT) rfl rfl rfl ?_
  refine v_push (0) (hi_X5_becomeLike_20 hT) rfl ?_
  refine v_load (v := (2, 95)) (hi_X5_becomeLike_21 hT) rfl rfl ?_
  refine v_getR (c := 96) (r := 95) (hi_X5_becomeLike_22 hT) rfl rfl rfl ?_
  refine v_push (0) (hi_X5_becomeLike_25 hT) rfl ?_
  refine v_push (60) (hi_X5_becomeLike_26 hT) rfl ?_
  refine v_copy (r0 := 50) (r1 := 96) (hi_X5_becomeLike_28 hT) rfl rfl rfl rfl (fun hd56 hd57 hd58 hd59 hd60 => ?_)
  refine v_load (v := (2, 49)) (hi_X5_becomeLike_31 hT) rfl rfl ?_
  refine v_getR (c := 51) (r := 49) (hi_X5_becomeLike_32 hT) rfl rfl rfl ?_
  refine v_push (0) (hi_X5_becomeLike_35 hT) rfl ?_
  refine v_load (v := (2, 95)) (hi_X5_becomeLike_36 hT) rfl rfl ?_
  refine v_getR (c := 97) (r := 95) (hi_X5_becomeLike_37 hT) rfl rfl rfl ?_
  refine v_push (0) (hi_X5_becomeLike_40 hT) rfl ?_
  refine v_push (60) (hi_X5_becomeLike_41 hT) rfl ?_
  refine v_copy (r0 := 51) (r1 := 97) (hi_X5_becomeLike_43 hT) rfl rfl rfl rfl (fun hd61 hd62 hd63 hd64 hd65 => ?_)
  refine v_load (v := (2, 49)) (hi_X5_becomeLike_46 hT) rfl rfl ?_
  refine v_getR (c := 52) (r := 49) (hi_X5_becomeLike_47 hT) rfl rfl rfl ?_
  refine v_push (0) (hi_X5_becomeLike_50 hT) rfl ?_
  refine v_load (v := (2, 95)) (hi_X5_becomeLike_51 hT) rfl rfl ?_
  refine v_getR (c := 98) (r := 95) (hi_X5_becomeLike_52 hT) rfl rfl rfl ?_
  refine v_push (0) (hi_X5_becomeLike_55 hT) rfl ?_
  refine v_push (60) (hi_X5_becomeLike_56 hT) rfl ?_
  refine v_copy (r0 := 52) (r1 := 98) (hi_X5_becomeLike_58 hT) rfl rfl rfl rfl (fun hd66 hd67 hd68 hd69 hd70 => ?_)
  refine v_load (v := (2, 49)) (hi_X5_becomeLike_61 hT) rfl rfl ?_
  refine v_getR (c := 53) (r := 49) (hi_X5_becomeLike_62 hT) rfl rfl rfl ?_
  refine v_push (0) (hi_X5_becomeLike_65 hT) rfl ?_
  refine v_load (v := (2, 95)) (hi_X5_becomeLike_66 hT) rfl rfl ?_
  refine v_getR (c := 99) (r := 95) (hi_X5_becomeLike_67 hT) rfl rfl rfl ?_
  refine v_push (0) (hi_X5_becomeLike_70 hT) rfl ?_
  refine v_push (60) (hi_X5_becomeLike_71 hT) rfl ?_
  refine v_copy (r0 := 53) (r1 := 99) (hi_X5_becomeLike_73 hT) rfl rfl rfl rfl (fun hd71 hd72 hd73 hd74 hd75 => ?_)
  refine v_ret0 (hi_X5_becomeLike_76 hT) ?_
  show vP D T N 25 187 (zcopy (zcopy (zcopy (zcopy (zset (zset (zcopy (zcopy (zcopy (zcopy (zcopy (zcopy (zcopy (zcopy (zcopy (zset (zset (zset (zset (zset h 85 0 (0, (h 39 0).2)) 85 1 (0, (h 39 1).2)) 85 2 (0, (h 39 2).2)) 85 3 (0, (h 39 3).2)) 85 4 (0, (h 39 4).2)) 40 0 86 0 48) 41 0 87 0 48) 42 0 88 0 144) 43 0 89 0 6) 44 0 90 0 6) 45 0 91 0 6) 46 0 92 0 6) 47 0 93 0 6) 48 0 94 0 6) 95 0 (0, (h 49 0).2)) 95 1 (0, (h 49 1).2)) 50 0 96 0 60) 51 0 97 0 60) 52 0 98 0 60) 53 0 99 0 60) [some (2, 85), some (2, 39)] [] _
  refine v_ret0 (hi_X2_becomeLike_187 hT) ?_
  show vP D T N 165 31 (zcopy (zcopy (zcopy (zcopy (zset (zset (zcopy (zcopy (zcopy (zcopy (zcopy (zcopy (zcopy (zcopy (zcopy (zset (zset (zset (zset (zset h 85 0 (0, (h 39 0).2)) 85 1 (0, (h 39 1).2)) 85 2 (0, (h 39 2).2)) 85 3 (0, (h 39 3).2)) 85 4 (0, (h 39 4).2)) 40 0 86 0 48) 41 0 87 0 48) 42 0 88 0 144) 43 0 89 0 6) 44 0 90 0 6) 45 0 91 0 6) 46 0 92 0 6) 47 0 93 0 6) 48 0 94 0 6) 95 0 (0, (h 49 0).2)) 95 1 (0, (h 49 1).2)) 50 0 96 0 60) 51 0 97 0 60) 52 0 98 0 60) 53 0 99 0 60) [some (2, 0)] [] _
  refine v_load (v := (2, 0)) (hi_X11_mark_31 hT) rfl rfl ?_
  refine v_dup (hi_X11_mark_32 hT) (Nat.ne_of_beq_eq_false rfl) ?_
  refine v_getf (v := (0, 2)) (r := 0) (hi_X11_mark_33 hT) rfl rfl (fun _ => Eq.trans (Eq.trans (vcopy_ne (fun c => absurd c.1 (by decide))) (Eq.trans (vcopy_ne (fun c => absurd c.1 (by decide))) (Eq.trans (vcopy_ne (fun c => absurd c.1 (by decide))) (Eq.trans (vcopy_ne (fun c => absurd c.1 (by decide))) (Eq.trans (zset_ne (fun c => absurd c.1 (by decide))) (Eq.trans (zset_ne (fun c => absurd c.1 (by decide))) (Eq.trans (vcopy_ne (fun c => absurd c.1 (by decide))) (Eq.trans (vcopy_ne (fun c => absurd c.1 (by decide))) (Eq.trans (vcopy_ne (fun c => absurd c.1 (by decide))) (Eq.trans (vcopy_ne (fun c => absurd c.1 (by decide))) (Eq.trans (vcopy_ne (fun c => absurd c.1 (by decide))) (Eq.trans (vcopy_ne (fun c => absurd c.1 (by decide))) (Eq.trans (vcopy_ne (fun c => absurd c.1 (by decide))) (Eq.trans (vcopy_ne (fun c => absurd c.1 (by decide))) (Eq.trans (vcopy_ne (fun c => absurd c.1 (by decide))) (Eq.trans (zset_ne (fun c => absurd c.1 (by decide))) (Eq.trans (zset_ne (fun c => absurd c.1 (by decide))) (Eq.trans (zset_ne (fun c => absurd c.1 (by decide))) (Eq.trans (zset_ne (fun c => absurd c.1 (by decide))) (zset_ne (fun c => absurd c.1 (by decide)))))))))))))))))))))) (em)) ?_
  refine v_push (1) (hi_X11_mark_36 hT) rfl ?_
  refine v_bin (w := 3) (hi_X11_mark_37 hT) (by decide) ?_
  refine v_putf (r := 0) hO (hi_X11_mark_38 hT) rfl (fun hf76 => ?_)
  refine v_load (v := (2, 0)) (hi_X11_mark_41 hT) rfl rfl ?_
  refine v_load (v := (2, 0)) (hi_X11_mark_42 hT) rfl rfl ?_
  refine v_getf (v := (0, 3)) (r := 0) (hi_X11_mark_43 hT) rfl rfl (fun _ => zset_same) ?_
  refine v_call (w := 2) [some (2, 0), some (0, 3)] hO (hi_X11_mark_46 hT) rfl rfl ?_
  refine v_load (v := (2, 0)) (hi_X11_answer_0 hT) rfl rfl ?_
  refine v_push (0) (hi_X11_answer_1 hT) rfl ?_
  refine v_putf (r := 0) hO (hi_X11_answer_2 hT) rfl (fun hf77 => ?_)
  refine v_load (v := (0, 3)) (hi_X11_answer_5 hT) rfl rfl ?_
  refine v_ret (hi_X11_answer_6 hT) (Or.inl rfl) ?_
  show vP D T N 165 49 (zset (zset (zcopy (zcopy (zcopy (zcopy (zset (zset (zcopy (zcopy (zcopy (zcopy (zcopy (zcopy (zcopy (zcopy (zcopy (zset (zset (zset (zset (zset h 85 0 (0, (h 39 0).2)) 85 1 (0, (h 39 1).2)) 85 2 (0, (h 39 2).2)) 85 3 (0, (h 39 3).2)) 85 4 (0, (h 39 4).2)) 40 0 86 0 48) 41 0 87 0 48) 42 0 88 0 144) 43 0 89 0 6) 44 0 90 0 6) 45 0 91 0 6) 46 0 92 0 6) 47 0 93 0 6) 48 0 94 0 6) 95 0 (0, (h 49 0).2)) 95 1 (0, (h 49 1).2)) 50 0 96 0 60) 51 0 97 0 60) 52 0 98 0 60) 53 0 99 0 60) 0 10 (0, 3)) 0 0 (0, 0)) [some (2, 0)] [(0, 3)] _
  refine v_ret (hi_X11_mark_49 hT) (Or.inl rfl) ?_
  exact k0 
theorem qc_back_39_2 {D : zD} {T : zT} (hT : hTab T) (hO : vOK T) {N : Nat} {h : zH} {Q : zR → Prop}  (hv0 : zHv h) (e7 : h 0 7 = (2, 39)) (em : h 0 10 = (0, 3))
    (k0 : Q (zset (zcopy (zcopy (zcopy (zcopy (zset (zset (zcopy (zcopy (zcopy (zcopy (zcopy (zcopy (zcopy (zcopy (zcopy (zset (zset (zset (zset (zset (zset h 0 10 (0, 2)) 39 0 (0, (h 85 0).2)) 39 1 (0, (h 85 1).2)) 39 2 (0, (h 85 2).2)) 39 3 (0, (h 85 3).2)) 39 4 (0, (h 85 4).2)) 86 0 40 0 48) 87 0 41 0 48) 88 0 42 0 144) 89 0 43 0 6) 90 0 44 0 6) 91 0 45 0 6) 92 0 46 0 6) 93 0 47 0 6) 94 0 48 0 6) 49 0 (0, (h 95 0).2)) 49 1 (0, (h 95 1).2)) 96 0 50 0 60) 97 0 51 0 60) 98 0 52 0 60) 99 0 53 0 60) 0 0 (0, 0), some (0, 2))) :
    vP D T N 144 0 h [some (2, 0)] [] Q := by
  refine v_load (v := (2, 0)) (hi_X11_back_0 hT) rfl rfl ?_
  refine v_getf (v := (0, 3)) (r := 0) (hi_X11_back_1 hT) rfl rfl (fun _ => em) ?_
  refine v_if (hi_X11_back_4 hT) (fun _ => ?_) (fun hc1 => absurd (show 0 < (3 : Int) from (by decide)) hc1)
  refine v_load (v := (2, 0)) (hi_X11_back_14 hT) rfl rfl ?_
  refine v_dup (hi_X11_back_15 hT) (Nat.ne_of_beq_eq_false rfl) ?_
  refine v_getf (v := (0, 3)) (r := 0) (hi_X11_back_16 hT) rfl rfl (fun _ => em) ?_
  refine v_push (1) (hi_X11_back_19 hT) rfl ?_
  refine v_bin (w := 2) (hi_X11_back_20 hT) (by decide) ?_
  refine v_putf (r := 0) hO (hi_X11_back_21 hT) rfl (fun hf2 => ?_)
  refine v_load (v := (2, 0)) (hi_X11_back_24 hT) rfl rfl ?_
  refine v_getf (v := (2, 39)) (r := 0) (hi_X11_back_25 hT) rfl rfl (fun _ => Eq.trans (zset_ne (fun c => absurd c.2 (by decide))) (e7)) ?_
  refine v_load (v := (2, 0)) (hi_X11_back_28 hT) rfl rfl ?_
  refine v_getR (c := 54) (r := 0) (hi_X11_back_29 hT) rfl rfl rfl ?_
  refine v_load (v := (2, 0)) (hi_X11_back_32 hT) rfl rfl ?_
  refine v_getf (v := (0, 2)) (r := 0) (hi_X11_back_33 hT) rfl rfl (fun _ => zset_same) ?_
  refine v_aldV (v := (2, 85)) (r := 54) (hi_X11_back_36 hT) rfl rfl (fun hv _ _ => hv.ref rfl) (fun ha3 hb4 => ?_)
  refine v_call (w := 2) [some (2, 39), some (2, 85)] hO (hi_X11_back_37 hT) rfl rfl ?_
  refine v_load (v := (2, 39)) (hi_X2_becomeLike_0 hT) rfl rfl ?_
  refine v_load (v := (2, 85)) (hi_X2_becomeLike_1 hT) rfl rfl ?_
  refine v_getf (v := (0, (h 85 0).2)) (r := 85) (hi_X2_becomeLike_2 hT) rfl rfl (fun hv_ => Eq.trans (zset_ne (fun c => absurd c.1 (by decide))) (hv0.at rfl)) ?_
  refine v_putf (r := 39) hO (hi_X2_becomeLike_5 hT) rfl (fun hf5 => ?_)
  refine v_load (v := (2, 39)) (hi_X2_becomeLike_8 hT) rfl rfl ?_
  refine v_load (v := (2, 85)) (hi_X2_becomeLike_9 hT) rfl rfl ?_
  refine v_getf (v := (0, (h 85 1).2)) (r := 85) (hi_X2_becomeLike_10 hT) rfl rfl (fun hv_ => Eq.trans (Eq.trans (zset_ne (fun c => absurd c.1 (by decide))) (zset_ne (fun c => absurd c.1 (by decide)))) (hv0.at rfl)) ?_
  refine v_putf (r := 39) hO (hi_X2_becomeLike_13 hT) rfl (fun hf6 => ?_)
  refine v_load (v := (2, 39)) (hi_X2_becomeLike_16 hT) rfl rfl ?_
  refine v_load (v := (2, 85)) (hi_X2_becomeLike_17 hT) rfl rfl ?_
  refine v_getf (v := (0, (h 85 2).2)) (r := 85) (hi_X2_becomeLike_18 hT) rfl rfl (fun hv_ => Eq.trans (Eq.trans (zset_ne (fun c => absurd c.1 (by decide))) (Eq.trans (zset_ne (fun c => absurd c.1 (by decide))) (zset_ne (fun c => absurd c.1 (by decide))))) (hv0.at rfl)) ?_
  refine v_putf (r := 39) hO (hi_X2_becomeLike_21 hT) rfl (fun hf7 => ?_)
  refine v_load (v := (2, 39)) (hi_X2_becomeLike_24 hT) rfl rfl ?_
  refine v_load (v := (2, 85)) (hi_X2_becomeLike_25 hT) rfl rfl ?_
  refine v_getf (v := (0, (h 85 3).2)) (r := 85) (hi_X2_becomeLike_26 hT) rfl rfl (fun hv_ => Eq.trans (Eq.trans (zset_ne (fun c => absurd c.1 (by decide))) (Eq.trans (zset_ne (fun c => absurd c.1 (by decide))) (Eq.trans (zset_ne (fun c => absurd c.1 (by decide))) (zset_ne (fun c => absurd c.1 (by decide)))))) (hv0.at rfl)) ?_
  refine v_putf (r := 39) hO (hi_X2_becomeLike_29 hT) rfl (fun hf8 => ?_)
  refine v_load (v := (2, 39)) (hi_X2_becomeLike_32 hT) rfl rfl ?_
  refine v_load (v := (2, 85)) (hi_X2_becomeLike_33 hT) rfl rfl ?_
  refine v_getf (v := (0, (h 85 4).2)) (r := 85) (hi_X2_becomeLike_34 hT) rfl rfl (fun hv_ => Eq.trans (Eq.trans (zset_ne (fun c => absurd c.1 (by decide))) (Eq.trans (zset_ne (fun c => absurd c.1 (by decide))) (Eq.trans (zset_ne (fun c => absurd c.1 (by decide))) (Eq.trans (zset_ne (fun c => absurd c.1 (by decide))) (zset_ne (fun c => absurd c.1 (by decide))))))) (hv0.at rfl)) ?_
  refine v_putf (r := 39) hO (hi_X2_becomeLike_37 hT) rfl (fun hf9 => ?_)
  refine v_load (v := (2, 85)) (hi_X2_becomeLike_40 hT) rfl rfl ?_
  refine v_getR (c := 86) (r := 85) (hi_X2_becomeLike_41 hT) rfl rfl rfl ?_
  refine v_push (0) (hi_X2_becomeLike_44 hT) rfl ?_
  refine v_load (v := (2, 39)) (hi_X2_becomeLike_45 hT) rfl rfl ?_
  refine v_getR (c := 40) (r := 39) (hi_X2_becomeLike_46 hT) rfl rfl rfl ?_
  refine v_push (0) (hi_X2_becomeLike_49 hT) rfl ?_
  refine v_push (48) (hi_X2_becomeLike_50 hT) rfl ?_
  refine v_copy (r0 := 86) (r1 := 40) (hi_X2_becomeLike_52 hT) rfl rfl rfl rfl (fun hd10 hd11 hd12 hd13 hd14 => ?_)
  refine v_load (v := (2, 85)) (hi_X2_becomeLike_55 hT) rfl rfl ?_
  refine v_getR (c := 87) (r := 85) (hi_X2_becomeLike_56 hT) rfl rfl rfl ?_
  refine v_push (0) (hi_X2_becomeLike_59 hT) rfl ?_
  refine v_load (v := (2, 39)) (hi_X2_becomeLike_60 hT) rfl rfl ?_
  refine v_getR (c := 41) (r := 39) (hi_X2_becomeLike_61 hT) rfl rfl rfl ?_
  refine v_push (0) (hi_X2_becomeLike_64 hT) rfl ?_
  refine v_push (48) (hi_X2_becomeLike_65 hT) rfl ?_
  refine v_copy (r0 := 87) (r1 := 41) (hi_X2_becomeLike_67 hT) rfl rfl rfl rfl (fun hd15 hd16 hd17 hd18 hd19 => ?_)
  refine v_load (v := (2, 85)) (hi_X2_becomeLike_70 hT) rfl rfl ?_
  refine v_getR (c := 88) (r := 85) (hi_X2_becomeLike_71 hT) rfl rfl rfl ?_
  refine v_push (0) (hi_X2_becomeLike_74 hT) rfl ?_
  refine v_load (v := (2, 39)) (hi_X2_becomeLike_75 hT) rfl rfl ?_
  refine v_getR (c := 42) (r := 39) (hi_X2_becomeLike_76 hT) rfl rfl rfl ?_
  refine v_push (0) (hi_X2_becomeLike_79 hT) rfl ?_
  refine v_push (144) (hi_X2_becomeLike_80 hT) rfl ?_
  refine v_copy (r0 := 88) (r1 := 42) (hi_X2_becomeLike_83 hT) rfl rfl rfl rfl (fun hd20 hd21 hd22 hd23 hd24 => ?_)
  refine v_load (v := (2, 85)) (hi_X2_becomeLike_86 hT) rfl rfl ?_
  refine v_getR (c := 89) (r := 85) (hi_X2_becomeLike_87 hT) rfl rfl rfl ?_
  refine v_push (0) (hi_X2_becomeLike_90 hT) rfl ?_
  refine v_load (v := (2, 39)) (hi_X2_becomeLike_91 hT) rfl rfl ?_
  refine v_getR (c := 43) (r := 39) (hi_X2_becomeLike_92 hT) rfl rfl rfl ?_
  refine v_push (0) (hi_X2_becomeLike_95 hT) rfl ?_
  refine v_push (6) (hi_X2_becomeLike_96 hT) rfl ?_
  refine v_copy (r0 := 89) (r1 := 43) (hi_X2_becomeLike_98 hT) rfl rfl rfl rfl (fun hd25 hd26 hd27 hd28 hd29 => ?_)
  refine v_load (v := (2, 85)) (hi_X2_becomeLike_101 hT) rfl rfl ?_
  refine v_getR (c := 90) (r := 85) (hi_X2_becomeLike_102 hT) rfl rfl rfl ?_
  refine v_push (0) (hi_X2_becomeLike_105 hT) rfl ?_
  refine v_load (v := (2, 39)) (hi_X2_becomeLike_106 hT) rfl rfl ?_
  refine v_getR (c := 44) (r := 39) (hi_X2_becomeLike_107 hT) rfl rfl rfl ?_
  refine v_push (0) (hi_X2_becomeLike_110 hT) rfl ?_
  refine v_push (6) (hi_X2_becomeLike_111 hT) rfl ?_
  refine v_copy (r0 := 90) (r1 := 44) (hi_X2_becomeLike_113 hT) rfl rfl rfl rfl (fun hd30 hd31 hd32 hd33 hd34 => ?_)
  refine v_load (v := (2, 85)) (hi_X2_becomeLike_116 hT) rfl rfl ?_
  refine v_getR (c := 91) (r := 85) (hi_X2_becomeLike_117 hT) rfl rfl rfl ?_
  refine v_push (0) (hi_X2_becomeLike_120 hT) rfl ?_
  refine v_load (v := (2, 39)) (hi_X2_becomeLike_121 hT) rfl rfl ?_
  refine v_getR (c := 45) (r := 39) (hi_X2_becomeLike_122 hT) rfl rfl rfl ?_
  refine v_push (0) (hi_X2_becomeLike_125 hT) rfl ?_
  refine v_push (6) (hi_X2_becomeLike_126 hT) rfl ?_
  refine v_copy (r0 := 91) (r1 := 45) (hi_X2_becomeLike_128 hT) rfl rfl rfl rfl (fun hd35 hd36 hd37 hd38 hd39 => ?_)
  refine v_load (v := (2, 85)) (hi_X2_becomeLike_131 hT) rfl rfl ?_
  refine v_getR (c := 92) (r := 85) (hi_X2_becomeLike_132 hT) rfl rfl rfl ?_
  refine v_push (0) (hi_X2_becomeLike_135 hT) rfl ?_
  refine v_load (v := (2, 39)) (hi_X2_becomeLike_136 hT) rfl rfl ?_
  refine v_getR (c := 46) (r := 39) (hi_X2_becomeLike_137 hT) rfl rfl rfl ?_
  refine v_push (0) (hi_X2_becomeLike_140 hT) rfl ?_
  refine v_push (6) (hi_X2_becomeLike_141 hT) rfl ?_
  refine v_copy (r0 := 92) (r1 := 46) (hi_X2_becomeLike_143 hT) rfl rfl rfl rfl (fun hd40 hd41 hd42 hd43 hd44 => ?_)
  refine v_load (v := (2, 85)) (hi_X2_becomeLike_146 hT) rfl rfl ?_
  refine v_getR (c := 93) (r := 85) (hi_X2_becomeLike_147 hT) rfl rfl rfl ?_
  refine v_push (0) (hi_X2_becomeLike_150 hT) rfl ?_
  refine v_load (v := (2, 39)) (hi_X2_becomeLike_151 hT) rfl rfl ?_
  refine v_getR (c := 47) (r := 39) (hi_X2_becomeLike_152 hT) rfl rfl rfl ?_
  refine v_push (0) (hi_X2_becomeLike_155 hT) rfl ?_
  refine v_push (6) (hi_X2_becomeLike_156 hT) rfl ?_
  refine v_copy (r0 := 93) (r1 := 47) (hi_X2_becomeLike_158 hT) rfl rfl rfl rfl (fun hd45 hd46 hd47 hd48 hd49 => ?_)
  refine v_load (v := (2, 85)) (hi_X2_becomeLike_161 hT) rfl rfl ?_
  refine v_getR (c := 94) (r := 85) (hi_X2_becomeLike_162 hT) rfl rfl rfl ?_
  refine v_push (0) (hi_X2_becomeLike_165 hT) rfl ?_
  refine v_load (v := (2, 39)) (hi_X2_becomeLike_166 hT) rfl rfl ?_
  refine v_getR (c := 48) (r := 39) (hi_X2_becomeLike_167 hT) rfl rfl rfl ?_
  refine v_push (0) (hi_X2_becomeLike_170 hT) rfl ?_
  refine v_push (6) (hi_X2_becomeLike_171 hT) rfl ?_
  refine v_copy (r0 := 94) (r1 := 48) (hi_X2_becomeLike_173 hT) rfl rfl rfl rfl (fun hd50 hd51 hd52 hd53 hd54 => ?_)
  refine v_load (v := (2, 39)) (hi_X2_becomeLike_176 hT) rfl rfl ?_
  refine v_getR (c := 49) (r := 39) (hi_X2_becomeLike_177 hT) rfl rfl rfl ?_
  refine v_load (v := (2, 85)) (hi_X2_becomeLike_180 hT) rfl rfl ?_
  refine v_getR (c := 95) (r := 85) (hi_X2_becomeLike_181 hT) rfl rfl rfl ?_
  refine v_call (w := 2) [some (2, 49), some (2, 95)] hO (hi_X2_becomeLike_184 hT) rfl rfl ?_
  refine v_load (v := (2, 49)) (hi_X5_becomeLike_0 hT) rfl rfl ?_
  refine v_load (v := (2, 95)) (hi_X5_becomeLike_1 hT) rfl rfl ?_
  refine v_getf (v := (0, (h 95 0).2)) (r := 95) (hi_X5_becomeLike_2 hT) rfl rfl (fun hv_ => Eq.trans (Eq.trans (vcopy_ne (fun c => absurd c.1 (by decide))) (Eq.trans (vcopy_ne (fun c => absurd c.1 (by decide))) (Eq.trans (vcopy_ne (fun c => absurd c.1 (by decide))) (Eq.trans (vcopy_ne (fun c => absurd c.1 (by decide))) (Eq.trans (vcopy_ne (fun c => absurd c.1 (by decide))) (Eq.trans (vcopy_ne (fun c => absurd c.1 (by decide))) (Eq.trans (vcopy_ne (fun c => absurd c.1 (by decide))) (Eq.trans (vcopy_ne (fun c => absurd c.1 (by decide))) (Eq.trans (vcopy_ne (fun c => absurd c.1 (by decide))) (Eq.trans (zset_ne (fun c => absurd c.1 (by decide))) (Eq.trans (zset_ne (fun c => absurd c.1 (by decide))) (Eq.trans (zset_ne (fun c => absurd c.1 (by decide))) (Eq.trans (zset_ne (fun c => absurd c.1 (by decide))) (Eq.trans (zset_ne (fun c => absurd c.1 (by decide))) (zset_ne (fun c => absurd c.1 (by decide))))))))))))))))) (hv0.at rfl)) ?_
  refine v_putf (r := 49) hO (hi_X5_becomeLike_5 hT) rfl (fun hf55 => ?_)
  refine v_load (v := (2, 49)) (hi_X5_becomeLike_8 hT) rfl rfl ?_
  refine v_load (v := (2, 95)) (hi_X5_becomeLike_9 hT) rfl rfl ?_
  refine v_getf (v := (0, (h 95 1).2)) (r := 95) (hi_X5_becomeLike_10 hT) rfl rfl (fun hv_ => Eq.trans (Eq.trans (zset_ne (fun c => absurd c.1 (by decide))) (Eq.trans (vcopy_ne (fun c => absurd c.1 (by decide))) (Eq.trans (vcopy_ne (fun c => absurd c.1 (by decide))) (Eq.trans (vcopy_ne (fun c => absurd c.1 (by decide))) (Eq.trans (vcopy_ne (fun c => absurd c.1 (by decide))) (Eq.trans (vcopy_ne (fun c => absurd c.1 (by decide))) (Eq.trans (vcopy_ne (fun c => absurd c.1 (by decide))) (Eq.trans (vcopy_ne (fun c => absurd c.1 (by decide))) (Eq.trans (vcopy_ne (fun c => absurd c.1 (by decide))) (Eq.trans (vcopy_ne (fun c => absurd c.1 (by decide))) (Eq.trans (zset_ne (fun c => absurd c.1 (by decide))) (Eq.trans (zset_ne (fun c => absurd c.1 (by decide))) (Eq.trans (zset_ne (fun c => absurd c.1 (by decide))) (Eq.trans (zset_ne (fun c => absurd c.1 (by decide))) (Eq.trans (zset_ne (fun c => absurd c.1 (by decide))) (zset_ne (fun c => absurd c.1 (by decide)))))))))))))))))) (hv0.at rfl)) ?_
  refine v_putf (r := 49) hO (hi_X5_becomeLike_13 hT) rfl (fun hf56 => ?_)
  refine v_load (v := (2, 95)) (hi_X5_becomeLike_16 hT) rfl rfl ?_
  refine v_getR (c := 96) (r := 95) (hi_X5_becomeLike_17 hT) rfl rfl rfl ?_
  refine v_push (0) (hi_X5_becomeLike_20 hT) rfl ?_
  refine v_load (v := (2, 49)) (hi_X5_becomeLike_21 hT) rfl rfl ?_
  refine v_getR (c := 50) (r := 49) (hi_X5_becomeLike_22 hT) rfl rfl rfl ?_
  refine v_push (0) (hi_X5_becomeLike_25 hT) rfl ?_
  refine v_push (60) (hi_X5_becomeLike_26 hT) rfl ?_
  refine v_copy (r0 := 96) (r1 := 50) (hi_X5_becomeLike_28 hT) rfl rfl rfl rfl (fun hd57 hd58 hd59 hd60 hd61 => ?_)
  refine v_load (v := (2, 95)) (hi_X5_becomeLike_31 hT) rfl rfl ?_
  refine v_getR (c := 97) (r := 95) (hi_X5_becomeLike_32 hT) rfl rfl rfl ?_
  refine v_push (0) (hi_X5_becomeLike_35 hT) rfl ?_
  refine v_load (v := (2, 49)) (hi_X5_becomeLike_36 hT) rfl rfl ?_
  refine v_getR (c := 51) (r := 49) (hi_X5_becomeLike_37 hT) rfl rfl rfl ?_
  refine v_push (0) (hi_X5_becomeLike_40 hT) rfl ?_
  refine v_push (60) (hi_X5_becomeLike_41 hT) rfl ?_
  refine v_copy (r0 := 97) (r1 := 51) (hi_X5_becomeLike_43 hT) rfl rfl rfl rfl (fun hd62 hd63 hd64 hd65 hd66 => ?_)
  refine v_load (v := (2, 95)) (hi_X5_becomeLike_46 hT) rfl rfl ?_
  refine v_getR (c := 98) (r := 95) (hi_X5_becomeLike_47 hT) rfl rfl rfl ?_
  refine v_push (0) (hi_X5_becomeLike_50 hT) rfl ?_
  refine v_load (v := (2, 49)) (hi_X5_becomeLike_51 hT) rfl rfl ?_
  refine v_getR (c := 52) (r := 49) (hi_X5_becomeLike_52 hT) rfl rfl rfl ?_
  refine v_push (0) (hi_X5_becomeLike_55 hT) rfl ?_
  refine v_push (60) (hi_X5_becomeLike_56 hT) rfl ?_
  refine v_copy (r0 := 98) (r1 := 52) (hi_X5_becomeLike_58 hT) rfl rfl rfl rfl (fun hd67 hd68 hd69 hd70 hd71 => ?_)
  refine v_load (v := (2, 95)) (hi_X5_becomeLike_61 hT) rfl rfl ?_
  refine v_getR (c := 99) (r := 95) (hi_X5_becomeLike_62 hT) rfl rfl rfl ?_
  refine v_push (0) (hi_X5_becomeLike_65 hT) rfl ?_
  refine v_load (v := (2, 49)) (hi_X5_becomeLike_66 hT) rfl rfl ?_
  refine v_getR (c := 53) (r := 49) (hi_X5_becomeLike_67 hT) rfl rfl rfl ?_
  refine v_push (0) (hi_X5_becomeLike_70 hT) rfl ?_
  refine v_push (60) (hi_X5_becomeLike_71 hT) rfl ?_
  refine v_copy (r0 := 99) (r1 := 53) (hi_X5_becomeLike_73 hT) rfl rfl rfl rfl (fun hd72 hd73 hd74 hd75 hd76 => ?_)
  refine v_ret0 (hi_X5_becomeLike_76 hT) ?_
  show vP D T N 25 187 (zcopy (zcopy (zcopy (zcopy (zset (zset (zcopy (zcopy (zcopy (zcopy (zcopy (zcopy (zcopy (zcopy (zcopy (zset (zset (zset (zset (zset (zset h 0 10 (0, 2)) 39 0 (0, (h 85 0).2)) 39 1 (0, (h 85 1).2)) 39 2 (0, (h 85 2).2)) 39 3 (0, (h 85 3).2)) 39 4 (0, (h 85 4).2)) 86 0 40 0 48) 87 0 41 0 48) 88 0 42 0 144) 89 0 43 0 6) 90 0 44 0 6) 91 0 45 0 6) 92 0 46 0 6) 93 0 47 0 6) 94 0 48 0 6) 49 0 (0, (h 95 0).2)) 49 1 (0, (h 95 1).2)) 96 0 50 0 60) 97 0 51 0 60) 98 0 52 0 60) 99 0 53 0 60) [some (2, 39), some (2, 85)] [] _
  refine v_ret0 (hi_X2_becomeLike_187 hT) ?_
  show vP D T N 144 40 (zcopy (zcopy (zcopy (zcopy (zset (zset (zcopy (zcopy (zcopy (zcopy (zcopy (zcopy (zcopy (zcopy (zcopy (zset (zset (zset (zset (zset (zset h 0 10 (0, 2)) 39 0 (0, (h 85 0).2)) 39 1 (0, (h 85 1).2)) 39 2 (0, (h 85 2).2)) 39 3 (0, (h 85 3).2)) 39 4 (0, (h 85 4).2)) 86 0 40 0 48) 87 0 41 0 48) 88 0 42 0 144) 89 0 43 0 6) 90 0 44 0 6) 91 0 45 0 6) 92 0 46 0 6) 93 0 47 0 6) 94 0 48 0 6) 49 0 (0, (h 95 0).2)) 49 1 (0, (h 95 1).2)) 96 0 50 0 60) 97 0 51 0 60) 98 0 52 0 60) 99 0 53 0 60) [some (2, 0)] [] _
  refine v_load (v := (2, 0)) (hi_X11_back_40 hT) rfl rfl ?_
  refine v_load (v := (2, 0)) (hi_X11_back_41 hT) rfl rfl ?_
  refine v_getf (v := (0, 2)) (r := 0) (hi_X11_back_42 hT) rfl rfl (fun _ => Eq.trans (Eq.trans (vcopy_ne (fun c => absurd c.1 (by decide))) (Eq.trans (vcopy_ne (fun c => absurd c.1 (by decide))) (Eq.trans (vcopy_ne (fun c => absurd c.1 (by decide))) (Eq.trans (vcopy_ne (fun c => absurd c.1 (by decide))) (Eq.trans (zset_ne (fun c => absurd c.1 (by decide))) (Eq.trans (zset_ne (fun c => absurd c.1 (by decide))) (Eq.trans (vcopy_ne (fun c => absurd c.1 (by decide))) (Eq.trans (vcopy_ne (fun c => absurd c.1 (by decide))) (Eq.trans (vcopy_ne (fun c => absurd c.1 (by decide))) (Eq.trans (vcopy_ne (fun c => absurd c.1 (by decide))) (Eq.trans (vcopy_ne (fun c => absurd c.1 (by decide))) (Eq.trans (vcopy_ne (fun c => absurd c.1 (by decide))) (Eq.trans (vcopy_ne (fun c => absurd c.1 (by decide))) (Eq.trans (vcopy_ne (fun c => absurd c.1 (by decide))) (Eq.trans (vcopy_ne (fun c => absurd c.1 (by decide))) (Eq.trans (zset_ne (fun c => absurd c.1 (by decide))) (Eq.trans (zset_ne (fun c => absurd c.1 (by decide))) (Eq.trans (zset_ne (fun c => absurd c.1 (by decide))) (Eq.trans (zset_ne (fun c => absurd c.1 (by decide))) (zset_ne (fun c => absurd c.1 (by decide)))))))))))))))))))))) zset_same) ?_
  refine v_call (w := 2) [some (2, 0), some (0, 2)] hO (hi_X11_back_45 hT) rfl rfl ?_
  refine v_load (v := (2, 0)) (hi_X11_answer_0 hT) rfl rfl ?_
  refine v_push (0) (hi_X11_answer_1 hT) rfl ?_
  refine v_putf (r := 0) hO (hi_X11_answer_2 hT) rfl (fun hf77 => ?_)
  refine v_load (v := (0, 2)) (hi_X11_answer_5 hT) rfl rfl ?_
  refine v_ret (hi_X11_answer_6 hT) (Or.inl rfl) ?_
  show vP D T N 144 48 (zset (zcopy (zcopy (zcopy (zcopy (zset (zset (zcopy (zcopy (zcopy (zcopy (zcopy (zcopy (zcopy (zcopy (zcopy (zset (zset (zset (zset (zset (zset h 0 10 (0, 2)) 39 0 (0, (h 85 0).2)) 39 1 (0, (h 85 1).2)) 39 2 (0, (h 85 2).2)) 39 3 (0, (h 85 3).2)) 39 4 (0, (h 85 4).2)) 86 0 40 0 48) 87 0 41 0 48) 88 0 42 0 144) 89 0 43 0 6) 90 0 44 0 6) 91 0 45 0 6) 92 0 46 0 6) 93 0 47 0 6) 94 0 48 0 6) 49 0 (0, (h 95 0).2)) 49 1 (0, (h 95 1).2)) 96 0 50 0 60) 97 0 51 0 60) 98 0 52 0 60) 99 0 53 0 60) 0 0 (0, 0)) [some (2, 0)] [(0, 2)] _
  refine v_ret (hi_X11_back_48 hT) (Or.inl rfl) ?_
  exact k0 
theorem qc_mark3 {D : zD} {T : zT} (hT : hTab T) (hO : vOK T) {N : Nat} {h : zH} {Q : zR → Prop}  (hv0 : zHv h) (em : h 0 10 = (0, 3))
    (k0 : Q (zset h 0 0 (0, 7), some (0, -1))) :
    vP D T N 165 0 h [some (2, 0)] [] Q := by
  refine v_load (v := (2, 0)) (hi_X11_mark_0 hT) rfl rfl ?_
  refine v_getf (v := (0, 3)) (r := 0) (hi_X11_mark_1 hT) rfl rfl (fun _ => em) ?_
  refine v_push (3) (hi_X11_mark_4 hT) rfl ?_
  refine v_ic (hi_X11_mark_5 hT) (fun hc1 => absurd (show (3 : Int) < 3 from hc1) (by decide)) (fun _ => ?_)
  refine v_load (v := (2, 0)) (hz_X11_mark hT _ _ rfl) rfl rfl ?_
  refine v_push (7) (hz_X11_mark hT _ _ rfl) rfl ?_
  refine v_call (w := 2) [some (2, 0), some (0, 7)] hO (hz_X11_mark hT _ _ rfl) rfl rfl ?_
  refine v_load (v := (2, 0)) (hi_X11_refused_0 hT) rfl rfl ?_
  refine v_load (v := (0, 7)) (hi_X11_refused_1 hT) rfl rfl ?_
  refine v_putf (r := 0) hO (hi_X11_refused_2 hT) rfl (fun hf2 => ?_)
  refine v_push (-1) (hi_X11_refused_5 hT) rfl ?_
  refine v_ret (hi_X11_refused_6 hT) (Or.inl rfl) ?_
  show vP D T N 165 14 (zset h 0 0 (0, 7)) [some (2, 0)] [(0, -1)] _
  refine v_ret (hz_X11_mark hT _ _ rfl) (Or.inl rfl) ?_
  exact k0 
theorem qc_back0 {D : zD} {T : zT} (hT : hTab T) (hO : vOK T) {N : Nat} {h : zH} {Q : zR → Prop}  (hv0 : zHv h) (em : h 0 10 = (0, 0))
    (k0 : Q (zset h 0 0 (0, 8), some (0, -1))) :
    vP D T N 144 0 h [some (2, 0)] [] Q := by
  refine v_load (v := (2, 0)) (hi_X11_back_0 hT) rfl rfl ?_
  refine v_getf (v := (0, 0)) (r := 0) (hi_X11_back_1 hT) rfl rfl (fun _ => em) ?_
  refine v_if (hi_X11_back_4 hT) (fun hc1 => absurd (show 0 < (0 : Int) from hc1) (by decide)) (fun _ => ?_)
  refine v_load (v := (2, 0)) (hz_X11_back hT _ _ rfl) rfl rfl ?_
  refine v_push (8) (hz_X11_back hT _ _ rfl) rfl ?_
  refine v_call (w := 2) [some (2, 0), some (0, 8)] hO (hz_X11_back hT _ _ rfl) rfl rfl ?_
  refine v_load (v := (2, 0)) (hi_X11_refused_0 hT) rfl rfl ?_
  refine v_load (v := (0, 8)) (hi_X11_refused_1 hT) rfl rfl ?_
  refine v_putf (r := 0) hO (hi_X11_refused_2 hT) rfl (fun hf2 => ?_)
  refine v_push (-1) (hi_X11_refused_5 hT) rfl ?_
  refine v_ret (hi_X11_refused_6 hT) (Or.inl rfl) ?_
  show vP D T N 144 13 (zset h 0 0 (0, 8)) [some (2, 0)] [(0, -1)] _
  refine v_ret (hz_X11_back hT _ _ rfl) (Or.inl rfl) ?_
  exact k0 
theorem qr_mark_0 {D : zD} {T : zT} (hT : hTab T) (hO : vOK T) {N : Nat} {h : zH} {Q : zR → Prop}  (hv0 : zHv h) (em : h 121 23 = (0, 0))
    (k0 : ∀ (g5 : zH), (CpF 0 1 (zset (zset (zset h 121 1 (0, 0)) 121 0 (0, 0)) 121 23 (0, 1)) g5) → Q (g5, some (0, 1))) :
    vP D T N 276 0 h [some (2, 121)] [] Q := by
  refine v_load (v := (2, 121)) (hi_X12_mark_0 hT) rfl rfl ?_
  refine v_push (0) (hi_X12_mark_1 hT) rfl ?_
  refine v_putf (r := 121) hO (hi_X12_mark_2 hT) rfl (fun hf1 => ?_)
  refine v_load (v := (2, 121)) (hi_X12_mark_5 hT) rfl rfl ?_
  refine v_push (0) (hi_X12_mark_6 hT) rfl ?_
  refine v_putf (r := 121) hO (hi_X12_mark_7 hT) rfl (fun hf2 => ?_)
  refine v_load (v := (2, 121)) (hi_X12_mark_10 hT) rfl rfl ?_
  refine v_getf (v := (0, 0)) (r := 121) (hi_X12_mark_11 hT) rfl rfl (fun _ => Eq.trans (Eq.trans (zset_ne (fun c => absurd c.2 (by decide))) (zset_ne (fun c => absurd c.2 (by decide)))) (em)) ?_
  refine v_push (3) (hi_X12_mark_14 hT) rfl ?_
  refine v_ic (hi_X12_mark_15 hT) (fun hc3 => absurd (show (0 : Int) = 3 from hc3) (by decide)) (fun _ => ?_)
  refine v_load (v := (2, 121)) (hz_X12_mark hT _ _ rfl) rfl rfl ?_
  refine v_dup (hz_X12_mark hT _ _ rfl) (Nat.ne_of_beq_eq_false rfl) ?_
  refine v_getf (v := (0, 0)) (r := 121) (hz_X12_mark hT _ _ rfl) rfl rfl (fun _ => Eq.trans (Eq.trans (zset_ne (fun c => absurd c.2 (by decide))) (zset_ne (fun c => absurd c.2 (by decide)))) (em)) ?_
  refine v_push (1) (hz_X12_mark hT _ _ rfl) rfl ?_
  refine v_bin (w := 1) (hz_X12_mark hT _ _ rfl) (by decide) ?_
  refine v_putf (r := 121) hO (hz_X12_mark hT _ _ rfl) rfl (fun hf4 => ?_)
  refine v_load (v := (2, 121)) (hz_X12_mark hT _ _ rfl) rfl rfl ?_
  refine v_push (0) (hz_X12_mark hT _ _ rfl) rfl ?_
  refine v_load (v := (2, 121)) (hz_X12_mark hT _ _ rfl) rfl rfl ?_
  refine v_getf (v := (0, 1)) (r := 121) (hz_X12_mark hT _ _ rfl) rfl rfl (fun _ => zset_same) ?_
  refine v_call (w := 4) [some (2, 121), some (0, 0), some (0, 1), none] hO (hz_X12_mark hT _ _ rfl) rfl rfl (rx_copy hT hO 0 1 (by decide) (by decide) (by decide) (fun g5 ft5 => ?_))
  · show vP D T N 276 44 g5 [some (2, 121)] [] _
    refine vP_hv (fun hv5 => ?_)
    refine v_load (v := (2, 121)) (hz_X12_mark hT _ _ rfl) rfl rfl ?_
    refine v_getf (v := (0, 1)) (r := 121) (hz_X12_mark hT _ _ rfl) rfl rfl (fun _ => (Eq.trans (ft5.2.2 121 23 (by first | decide | exact fun c => by omega)) (zset_same))) ?_
    refine v_ret (hz_X12_mark hT _ _ rfl) (Or.inl rfl) ?_
    exact k0 g5 ft5
theorem qr_back_0 {D : zD} {T : zT} (hT : hTab T) (hO : vOK T) {N : Nat} {h : zH} {Q : zR → Prop}  (hv0 : zHv h) (em : h 121 23 = (0, 1))
    (k0 : ∀ (g4 : zH), (CpF 1 0 (zset (zset h 121 1 (0, 0)) 121 0 (0, 0)) g4) → Q (zset g4 121 23 (0, 0), some (0, 0))) :
    vP D T N 199 0 h [some (2, 121)] [] Q := by
  refine v_load (v := (2, 121)) (hi_X12_back_0 hT) rfl rfl ?_
  refine v_push (0) (hi_X12_back_1 hT) rfl ?_
  refine v_putf (r := 121) hO (hi_X12_back_2 hT) rfl (fun hf1 => ?_)
  refine v_load (v := (2, 121)) (hi_X12_back_5 hT) rfl rfl ?_
  refine v_push (0) (hi_X12_back_6 hT) rfl ?_
  refine v_putf (r := 121) hO (hi_X12_back_7 hT) rfl (fun hf2 => ?_)
  refine v_load (v := (2, 121)) (hi_X12_back_10 hT) rfl rfl ?_
  refine v_getf (v := (0, 1)) (r := 121) (hi_X12_back_11 hT) rfl rfl (fun _ => Eq.trans (Eq.trans (zset_ne (fun c => absurd c.2 (by decide))) (zset_ne (fun c => absurd c.2 (by decide)))) (em)) ?_
  refine v_if (hi_X12_back_14 hT) (fun hc3 => absurd (show (1 : Int) = 0 from hc3) (by decide)) (fun _ => ?_)
  refine v_load (v := (2, 121)) (hz_X12_back hT _ _ rfl) rfl rfl ?_
  refine v_load (v := (2, 121)) (hz_X12_back hT _ _ rfl) rfl rfl ?_
  refine v_getf (v := (0, 1)) (r := 121) (hz_X12_back hT _ _ rfl) rfl rfl (fun _ => Eq.trans (Eq.trans (zset_ne (fun c => absurd c.2 (by decide))) (zset_ne (fun c => absurd c.2 (by decide)))) (em)) ?_
  refine v_push (0) (hz_X12_back hT _ _ rfl) rfl ?_
  refine v_call (w := 4) [some (2, 121), some (0, 1), some (0, 0), none] hO (hz_X12_back hT _ _ rfl) rfl rfl (rx_copy hT hO 1 0 (by decide) (by decide) (by decide) (fun g4 ft4 => ?_))
  · show vP D T N 199 33 g4 [some (2, 121)] [] _
    refine vP_hv (fun hv4 => ?_)
    refine v_load (v := (2, 121)) (hz_X12_back hT _ _ rfl) rfl rfl ?_
    refine v_dup (hz_X12_back hT _ _ rfl) (Nat.ne_of_beq_eq_false rfl) ?_
    refine v_getf (v := (0, 1)) (r := 121) (hz_X12_back hT _ _ rfl) rfl rfl (fun _ => (Eq.trans (ft4.2.2 121 23 (by first | decide | exact fun c => by omega)) (Eq.trans (Eq.trans (zset_ne (fun c => absurd c.2 (by decide))) (zset_ne (fun c => absurd c.2 (by decide)))) (em)))) ?_
    refine v_push (1) (hz_X12_back hT _ _ rfl) rfl ?_
    refine v_bin (w := 0) (hz_X12_back hT _ _ rfl) (by decide) ?_
    refine v_putf (r := 121) hO (hz_X12_back hT _ _ rfl) rfl (fun hf5 => ?_)
    refine v_load (v := (2, 121)) (hz_X12_back hT _ _ rfl) rfl rfl ?_
    refine v_getf (v := (0, 0)) (r := 121) (hz_X12_back hT _ _ rfl) rfl rfl (fun _ => zset_same) ?_
    refine v_ret (hz_X12_back hT _ _ rfl) (Or.inl rfl) ?_
    exact k0 g4 ft4
theorem qr_mark_1 {D : zD} {T : zT} (hT : hTab T) (hO : vOK T) {N : Nat} {h : zH} {Q : zR → Prop}  (hv0 : zHv h) (em : h 121 23 = (0, 1))
    (k0 : ∀ (g5 : zH), (CpF 0 2 (zset (zset (zset h 121 1 (0, 0)) 121 0 (0, 0)) 121 23 (0, 2)) g5) → Q (g5, some (0, 2))) :
    vP D T N 276 0 h [some (2, 121)] [] Q := by
  refine v_load (v := (2, 121)) (hi_X12_mark_0 hT) rfl rfl ?_
  refine v_push (0) (hi_X12_mark_1 hT) rfl ?_
  refine v_putf (r := 121) hO (hi_X12_mark_2 hT) rfl (fun hf1 => ?_)
  refine v_load (v := (2, 121)) (hi_X12_mark_5 hT) rfl rfl ?_
  refine v_push (0) (hi_X12_mark_6 hT) rfl ?_
  refine v_putf (r := 121) hO (hi_X12_mark_7 hT) rfl (fun hf2 => ?_)
  refine v_load (v := (2, 121)) (hi_X12_mark_10 hT) rfl rfl ?_
  refine v_getf (v := (0, 1)) (r := 121) (hi_X12_mark_11 hT) rfl rfl (fun _ => Eq.trans (Eq.trans (zset_ne (fun c => absurd c.2 (by decide))) (zset_ne (fun c => absurd c.2 (by decide)))) (em)) ?_
  refine v_push (3) (hi_X12_mark_14 hT) rfl ?_
  refine v_ic (hi_X12_mark_15 hT) (fun hc3 => absurd (show (1 : Int) = 3 from hc3) (by decide)) (fun _ => ?_)
  refine v_load (v := (2, 121)) (hz_X12_mark hT _ _ rfl) rfl rfl ?_
  refine v_dup (hz_X12_mark hT _ _ rfl) (Nat.ne_of_beq_eq_false rfl) ?_
  refine v_getf (v := (0, 1)) (r := 121) (hz_X12_mark hT _ _ rfl) rfl rfl (fun _ => Eq.trans (Eq.trans (zset_ne (fun c => absurd c.2 (by decide))) (zset_ne (fun c => absurd c.2 (by decide)))) (em)) ?_
  refine v_push (1) (hz_X12_mark hT _ _ rfl) rfl ?_
  refine v_bin (w := 2) (hz_X12_mark hT _ _ rfl) (by decide) ?_
  refine v_putf (r := 121) hO (hz_X12_mark hT _ _ rfl) rfl (fun hf4 => ?_)
  refine v_load (v := (2, 121)) (hz_X12_mark hT _ _ rfl) rfl rfl ?_
  refine v_push (0) (hz_X12_mark hT _ _ rfl) rfl ?_
  refine v_load (v := (2, 121)) (hz_X12_mark hT _ _ rfl) rfl rfl ?_
  refine v_getf (v := (0, 2)) (r := 121) (hz_X12_mark hT _ _ rfl) rfl rfl (fun _ => zset_same) ?_
  refine v_call (w := 4) [some (2, 121), some (0, 0), some (0, 2), none] hO (hz_X12_mark hT _ _ rfl) rfl rfl (rx_copy hT hO 0 2 (by decide) (by decide) (by decide) (fun g5 ft5 => ?_))
  · show vP D T N 276 44 g5 [some (2, 121)] [] _
    refine vP_hv (fun hv5 => ?_)
    refine v_load (v := (2, 121)) (hz_X12_mark hT _ _ rfl) rfl rfl ?_
    refine v_getf (v := (0, 2)) (r := 121) (hz_X12_mark hT _ _ rfl) rfl rfl (fun _ => (Eq.trans (ft5.2.2 121 23 (by first | decide | exact fun c => by omega)) (zset_same))) ?_
    refine v_ret (hz_X12_mark hT _ _ rfl) (Or.inl rfl) ?_
    exact k0 g5 ft5
theorem qr_back_1 {D : zD} {T : zT} (hT : hTab T) (hO : vOK T) {N : Nat} {h : zH} {Q : zR → Prop}  (hv0 : zHv h) (em : h 121 23 = (0, 2))
    (k0 : ∀ (g4 : zH), (CpF 2 0 (zset (zset h 121 1 (0, 0)) 121 0 (0, 0)) g4) → Q (zset g4 121 23 (0, 1), some (0, 1))) :
    vP D T N 199 0 h [some (2, 121)] [] Q := by
  refine v_load (v := (2, 121)) (hi_X12_back_0 hT) rfl rfl ?_
  refine v_push (0) (hi_X12_back_1 hT) rfl ?_
  refine v_putf (r := 121) hO (hi_X12_back_2 hT) rfl (fun hf1 => ?_)
  refine v_load (v := (2, 121)) (hi_X12_back_5 hT) rfl rfl ?_
  refine v_push (0) (hi_X12_back_6 hT) rfl ?_
  refine v_putf (r := 121) hO (hi_X12_back_7 hT) rfl (fun hf2 => ?_)
  refine v_load (v := (2, 121)) (hi_X12_back_10 hT) rfl rfl ?_
  refine v_getf (v := (0, 2)) (r := 121) (hi_X12_back_11 hT) rfl rfl (fun _ => Eq.trans (Eq.trans (zset_ne (fun c => absurd c.2 (by decide))) (zset_ne (fun c => absurd c.2 (by decide)))) (em)) ?_
  refine v_if (hi_X12_back_14 hT) (fun hc3 => absurd (show (2 : Int) = 0 from hc3) (by decide)) (fun _ => ?_)
  refine v_load (v := (2, 121)) (hz_X12_back hT _ _ rfl) rfl rfl ?_
  refine v_load (v := (2, 121)) (hz_X12_back hT _ _ rfl) rfl rfl ?_
  refine v_getf (v := (0, 2)) (r := 121) (hz_X12_back hT _ _ rfl) rfl rfl (fun _ => Eq.trans (Eq.trans (zset_ne (fun c => absurd c.2 (by decide))) (zset_ne (fun c => absurd c.2 (by decide)))) (em)) ?_
  refine v_push (0) (hz_X12_back hT _ _ rfl) rfl ?_
  refine v_call (w := 4) [some (2, 121), some (0, 2), some (0, 0), none] hO (hz_X12_back hT _ _ rfl) rfl rfl (rx_copy hT hO 2 0 (by decide) (by decide) (by decide) (fun g4 ft4 => ?_))
  · show vP D T N 199 33 g4 [some (2, 121)] [] _
    refine vP_hv (fun hv4 => ?_)
    refine v_load (v := (2, 121)) (hz_X12_back hT _ _ rfl) rfl rfl ?_
    refine v_dup (hz_X12_back hT _ _ rfl) (Nat.ne_of_beq_eq_false rfl) ?_
    refine v_getf (v := (0, 2)) (r := 121) (hz_X12_back hT _ _ rfl) rfl rfl (fun _ => (Eq.trans (ft4.2.2 121 23 (by first | decide | exact fun c => by omega)) (Eq.trans (Eq.trans (zset_ne (fun c => absurd c.2 (by decide))) (zset_ne (fun c => absurd c.2 (by decide)))) (em)))) ?_
    refine v_push (1) (hz_X12_back hT _ _ rfl) rfl ?_
    refine v_bin (w := 1) (hz_X12_back hT _ _ rfl) (by decide) ?_
    refine v_putf (r := 121) hO (hz_X12_back hT _ _ rfl) rfl (fun hf5 => ?_)
    refine v_load (v := (2, 121)) (hz_X12_back hT _ _ rfl) rfl rfl ?_
    refine v_getf (v := (0, 1)) (r := 121) (hz_X12_back hT _ _ rfl) rfl rfl (fun _ => zset_same) ?_
    refine v_ret (hz_X12_back hT _ _ rfl) (Or.inl rfl) ?_
    exact k0 g4 ft4
theorem qr_mark_2 {D : zD} {T : zT} (hT : hTab T) (hO : vOK T) {N : Nat} {h : zH} {Q : zR → Prop}  (hv0 : zHv h) (em : h 121 23 = (0, 2))
    (k0 : ∀ (g5 : zH), (CpF 0 3 (zset (zset (zset h 121 1 (0, 0)) 121 0 (0, 0)) 121 23 (0, 3)) g5) → Q (g5, some (0, 3))) :
    vP D T N 276 0 h [some (2, 121)] [] Q := by
  refine v_load (v := (2, 121)) (hi_X12_mark_0 hT) rfl rfl ?_
  refine v_push (0) (hi_X12_mark_1 hT) rfl ?_
  refine v_putf (r := 121) hO (hi_X12_mark_2 hT) rfl (fun hf1 => ?_)
  refine v_load (v := (2, 121)) (hi_X12_mark_5 hT) rfl rfl ?_
  refine v_push (0) (hi_X12_mark_6 hT) rfl ?_
  refine v_putf (r := 121) hO (hi_X12_mark_7 hT) rfl (fun hf2 => ?_)
  refine v_load (v := (2, 121)) (hi_X12_mark_10 hT) rfl rfl ?_
  refine v_getf (v := (0, 2)) (r := 121) (hi_X12_mark_11 hT) rfl rfl (fun _ => Eq.trans (Eq.trans (zset_ne (fun c => absurd c.2 (by decide))) (zset_ne (fun c => absurd c.2 (by decide)))) (em)) ?_
  refine v_push (3) (hi_X12_mark_14 hT) rfl ?_
  refine v_ic (hi_X12_mark_15 hT) (fun hc3 => absurd (show (2 : Int) = 3 from hc3) (by decide)) (fun _ => ?_)
  refine v_load (v := (2, 121)) (hz_X12_mark hT _ _ rfl) rfl rfl ?_
  refine v_dup (hz_X12_mark hT _ _ rfl) (Nat.ne_of_beq_eq_false rfl) ?_
  refine v_getf (v := (0, 2)) (r := 121) (hz_X12_mark hT _ _ rfl) rfl rfl (fun _ => Eq.trans (Eq.trans (zset_ne (fun c => absurd c.2 (by decide))) (zset_ne (fun c => absurd c.2 (by decide)))) (em)) ?_
  refine v_push (1) (hz_X12_mark hT _ _ rfl) rfl ?_
  refine v_bin (w := 3) (hz_X12_mark hT _ _ rfl) (by decide) ?_
  refine v_putf (r := 121) hO (hz_X12_mark hT _ _ rfl) rfl (fun hf4 => ?_)
  refine v_load (v := (2, 121)) (hz_X12_mark hT _ _ rfl) rfl rfl ?_
  refine v_push (0) (hz_X12_mark hT _ _ rfl) rfl ?_
  refine v_load (v := (2, 121)) (hz_X12_mark hT _ _ rfl) rfl rfl ?_
  refine v_getf (v := (0, 3)) (r := 121) (hz_X12_mark hT _ _ rfl) rfl rfl (fun _ => zset_same) ?_
  refine v_call (w := 4) [some (2, 121), some (0, 0), some (0, 3), none] hO (hz_X12_mark hT _ _ rfl) rfl rfl (rx_copy hT hO 0 3 (by decide) (by decide) (by decide) (fun g5 ft5 => ?_))
  · show vP D T N 276 44 g5 [some (2, 121)] [] _
    refine vP_hv (fun hv5 => ?_)
    refine v_load (v := (2, 121)) (hz_X12_mark hT _ _ rfl) rfl rfl ?_
    refine v_getf (v := (0, 3)) (r := 121) (hz_X12_mark hT _ _ rfl) rfl rfl (fun _ => (Eq.trans (ft5.2.2 121 23 (by first | decide | exact fun c => by omega)) (zset_same))) ?_
    refine v_ret (hz_X12_mark hT _ _ rfl) (Or.inl rfl) ?_
    exact k0 g5 ft5
theorem qr_back_2 {D : zD} {T : zT} (hT : hTab T) (hO : vOK T) {N : Nat} {h : zH} {Q : zR → Prop}  (hv0 : zHv h) (em : h 121 23 = (0, 3))
    (k0 : ∀ (g4 : zH), (CpF 3 0 (zset (zset h 121 1 (0, 0)) 121 0 (0, 0)) g4) → Q (zset g4 121 23 (0, 2), some (0, 2))) :
    vP D T N 199 0 h [some (2, 121)] [] Q := by
  refine v_load (v := (2, 121)) (hi_X12_back_0 hT) rfl rfl ?_
  refine v_push (0) (hi_X12_back_1 hT) rfl ?_
  refine v_putf (r := 121) hO (hi_X12_back_2 hT) rfl (fun hf1 => ?_)
  refine v_load (v := (2, 121)) (hi_X12_back_5 hT) rfl rfl ?_
  refine v_push (0) (hi_X12_back_6 hT) rfl ?_
  refine v_putf (r := 121) hO (hi_X12_back_7 hT) rfl (fun hf2 => ?_)
  refine v_load (v := (2, 121)) (hi_X12_back_10 hT) rfl rfl ?_
  refine v_getf (v := (0, 3)) (r := 121) (hi_X12_back_11 hT) rfl rfl (fun _ => Eq.trans (Eq.trans (zset_ne (fun c => absurd c.2 (by decide))) (zset_ne (fun c => absurd c.2 (by decide)))) (em)) ?_
  refine v_if (hi_X12_back_14 hT) (fun hc3 => absurd (show (3 : Int) = 0 from hc3) (by decide)) (fun _ => ?_)
  refine v_load (v := (2, 121)) (hz_X12_back hT _ _ rfl) rfl rfl ?_
  refine v_load (v := (2, 121)) (hz_X12_back hT _ _ rfl) rfl rfl ?_
  refine v_getf (v := (0, 3)) (r := 121) (hz_X12_back hT _ _ rfl) rfl rfl (fun _ => Eq.trans (Eq.trans (zset_ne (fun c => absurd c.2 (by decide))) (zset_ne (fun c => absurd c.2 (by decide)))) (em)) ?_
  refine v_push (0) (hz_X12_back hT _ _ rfl) rfl ?_
  refine v_call (w := 4) [some (2, 121), some (0, 3), some (0, 0), none] hO (hz_X12_back hT _ _ rfl) rfl rfl (rx_copy hT hO 3 0 (by decide) (by decide) (by decide) (fun g4 ft4 => ?_))
  · show vP D T N 199 33 g4 [some (2, 121)] [] _
    refine vP_hv (fun hv4 => ?_)
    refine v_load (v := (2, 121)) (hz_X12_back hT _ _ rfl) rfl rfl ?_
    refine v_dup (hz_X12_back hT _ _ rfl) (Nat.ne_of_beq_eq_false rfl) ?_
    refine v_getf (v := (0, 3)) (r := 121) (hz_X12_back hT _ _ rfl) rfl rfl (fun _ => (Eq.trans (ft4.2.2 121 23 (by first | decide | exact fun c => by omega)) (Eq.trans (Eq.trans (zset_ne (fun c => absurd c.2 (by decide))) (zset_ne (fun c => absurd c.2 (by decide)))) (em)))) ?_
    refine v_push (1) (hz_X12_back hT _ _ rfl) rfl ?_
    refine v_bin (w := 2) (hz_X12_back hT _ _ rfl) (by decide) ?_
    refine v_putf (r := 121) hO (hz_X12_back hT _ _ rfl) rfl (fun hf5 => ?_)
    refine v_load (v := (2, 121)) (hz_X12_back hT _ _ rfl) rfl rfl ?_
    refine v_getf (v := (0, 2)) (r := 121) (hz_X12_back hT _ _ rfl) rfl rfl (fun _ => zset_same) ?_
    refine v_ret (hz_X12_back hT _ _ rfl) (Or.inl rfl) ?_
    exact k0 g4 ft4
theorem qr_mark3 {D : zD} {T : zT} (hT : hTab T) (hO : vOK T) {N : Nat} {h : zH} {Q : zR → Prop}  (hv0 : zHv h) (em : h 121 23 = (0, 3))
    (k0 : Q (zset (zset (zset h 121 1 (0, 0)) 121 0 (0, 0)) 121 0 (0, 7), some (0, -1))) :
    vP D T N 276 0 h [some (2, 121)] [] Q := by
  refine v_load (v := (2, 121)) (hi_X12_mark_0 hT) rfl rfl ?_
  refine v_push (0) (hi_X12_mark_1 hT) rfl ?_
  refine v_putf (r := 121) hO (hi_X12_mark_2 hT) rfl (fun hf1 => ?_)
  refine v_load (v := (2, 121)) (hi_X12_mark_5 hT) rfl rfl ?_
  refine v_push (0) (hi_X12_mark_6 hT) rfl ?_
  refine v_putf (r := 121) hO (hi_X12_mark_7 hT) rfl (fun hf2 => ?_)
  refine v_load (v := (2, 121)) (hi_X12_mark_10 hT) rfl rfl ?_
  refine v_getf (v := (0, 3)) (r := 121) (hi_X12_mark_11 hT) rfl rfl (fun _ => Eq.trans (Eq.trans (zset_ne (fun c => absurd c.2 (by decide))) (zset_ne (fun c => absurd c.2 (by decide)))) (em)) ?_
  refine v_push (3) (hi_X12_mark_14 hT) rfl ?_
  refine v_ic (hi_X12_mark_15 hT) (fun _ => ?_) (fun hc3 => absurd (show (3 : Int) = 3 from (by decide)) hc3)
  refine v_load (v := (2, 121)) (hz_X12_mark hT _ _ rfl) rfl rfl ?_
  refine v_push (7) (hz_X12_mark hT _ _ rfl) rfl ?_
  refine v_call (w := 2) [some (2, 121), some (0, 7)] hO (hz_X12_mark hT _ _ rfl) rfl rfl ?_
  refine v_load (v := (2, 121)) (hi_X12_refuse_0 hT) rfl rfl ?_
  refine v_load (v := (0, 7)) (hi_X12_refuse_1 hT) rfl rfl ?_
  refine v_putf (r := 121) hO (hi_X12_refuse_2 hT) rfl (fun hf4 => ?_)
  refine v_push (-1) (hi_X12_refuse_5 hT) rfl ?_
  refine v_ret (hi_X12_refuse_6 hT) (Or.inl rfl) ?_
  show vP D T N 276 24 (zset (zset (zset h 121 1 (0, 0)) 121 0 (0, 0)) 121 0 (0, 7)) [some (2, 121)] [(0, -1)] _
  refine v_ret (hz_X12_mark hT _ _ rfl) (Or.inl rfl) ?_
  exact k0 
theorem qr_back0 {D : zD} {T : zT} (hT : hTab T) (hO : vOK T) {N : Nat} {h : zH} {Q : zR → Prop}  (hv0 : zHv h) (em : h 121 23 = (0, 0))
    (k0 : Q (zset (zset (zset h 121 1 (0, 0)) 121 0 (0, 0)) 121 0 (0, 8), some (0, -1))) :
    vP D T N 199 0 h [some (2, 121)] [] Q := by
  refine v_load (v := (2, 121)) (hi_X12_back_0 hT) rfl rfl ?_
  refine v_push (0) (hi_X12_back_1 hT) rfl ?_
  refine v_putf (r := 121) hO (hi_X12_back_2 hT) rfl (fun hf1 => ?_)
  refine v_load (v := (2, 121)) (hi_X12_back_5 hT) rfl rfl ?_
  refine v_push (0) (hi_X12_back_6 hT) rfl ?_
  refine v_putf (r := 121) hO (hi_X12_back_7 hT) rfl (fun hf2 => ?_)
  refine v_load (v := (2, 121)) (hi_X12_back_10 hT) rfl rfl ?_
  refine v_getf (v := (0, 0)) (r := 121) (hi_X12_back_11 hT) rfl rfl (fun _ => Eq.trans (Eq.trans (zset_ne (fun c => absurd c.2 (by decide))) (zset_ne (fun c => absurd c.2 (by decide)))) (em)) ?_
  refine v_if (hi_X12_back_14 hT) (fun _ => ?_) (fun hc3 => absurd (show (0 : Int) = 0 from (by decide)) hc3)
  refine v_load (v := (2, 121)) (hz_X12_back hT _ _ rfl) rfl rfl ?_
  refine v_push (8) (hz_X12_back hT _ _ rfl) rfl ?_
  refine v_call (w := 2) [some (2, 121), some (0, 8)] hO (hz_X12_back hT _ _ rfl) rfl rfl ?_
  refine v_load (v := (2, 121)) (hi_X12_refuse_0 hT) rfl rfl ?_
  refine v_load (v := (0, 8)) (hi_X12_refuse_1 hT) rfl rfl ?_
  refine v_putf (r := 121) hO (hi_X12_refuse_2 hT) rfl (fun hf4 => ?_)
  refine v_push (-1) (hi_X12_refuse_5 hT) rfl ?_
  refine v_ret (hi_X12_refuse_6 hT) (Or.inl rfl) ?_
  show vP D T N 199 23 (zset (zset (zset h 121 1 (0, 0)) 121 0 (0, 0)) 121 0 (0, 8)) [some (2, 121)] [(0, -1)] _
  refine v_ret (hz_X12_back hT _ _ rfl) (Or.inl rfl) ?_
  exact k0 
theorem vcopy_at0 {h : zH} {r0 r1 n b : Nat} (hb : b < n) : zcopy h r0 0 r1 0 n r1 b = h r0 b := by
  unfold zcopy
  rw [if_pos ⟨rfl, Nat.zero_le _, by omega⟩]
  congr 1
  omega
/-! a LAND becomes like another (s: from; d: to) -/
def cpLand (h : zH) (s d : Nat) : zH := zcopy (zcopy (zcopy (zcopy (zset (zset (zcopy (zcopy (zcopy (zcopy (zcopy (zcopy (zcopy (zcopy (zcopy (zset (zset (zset (zset (zset h d 0 (0, (h s 0).2)) d 1 (0, (h s 1).2)) d 2 (0, (h s 2).2)) d 3 (0, (h s 3).2)) d 4 (0, (h s 4).2)) (s + 1) 0 (d + 1) 0 48) (s + 2) 0 (d + 2) 0 48) (s + 3) 0 (d + 3) 0 144) (s + 4) 0 (d + 4) 0 6) (s + 5) 0 (d + 5) 0 6) (s + 6) 0 (d + 6) 0 6) (s + 7) 0 (d + 7) 0 6) (s + 8) 0 (d + 8) 0 6) (s + 9) 0 (d + 9) 0 6) (d + 10) 0 (0, (h (s + 10) 0).2)) (d + 10) 1 (0, (h (s + 10) 1).2)) (s + 11) 0 (d + 11) 0 60) (s + 12) 0 (d + 12) 0 60) (s + 13) 0 (d + 13) 0 60) (s + 14) 0 (d + 14) 0 60
theorem cpLand_ne {h : zH} {s d : Nat} (hd : s + 15 ≤ d ∨ d + 15 ≤ s) : ∀ a k, ¬ (d ≤ a ∧ a ≤ d + 14) → cpLand h s d a k = h a k := fun a k hn => by
  unfold cpLand
  rw [vcopy_ne (fun c => by omega), vcopy_ne (fun c => by omega), vcopy_ne (fun c => by omega), vcopy_ne (fun c => by omega), zset_ne (fun c => by omega), zset_ne (fun c => by omega), vcopy_ne (fun c => by omega), vcopy_ne (fun c => by omega), vcopy_ne (fun c => by omega), vcopy_ne (fun c => by omega), vcopy_ne (fun c => by omega), vcopy_ne (fun c => by omega), vcopy_ne (fun c => by omega), vcopy_ne (fun c => by omega), vcopy_ne (fun c => by omega), zset_ne (fun c => by omega), zset_ne (fun c => by omega), zset_ne (fun c => by omega), zset_ne (fun c => by omega), zset_ne (fun c => by omega)]
theorem cpLand_0 {h : zH} {s d : Nat} (hd : s + 15 ≤ d ∨ d + 15 ≤ s) : cpLand h s d d 0 = (0, (h s 0).2) := by
  unfold cpLand
  rw [vcopy_ne (fun c => by omega), vcopy_ne (fun c => by omega), vcopy_ne (fun c => by omega), vcopy_ne (fun c => by omega), zset_ne (fun c => by omega), zset_ne (fun c => by omega), vcopy_ne (fun c => by omega), vcopy_ne (fun c => by omega), vcopy_ne (fun c => by omega), vcopy_ne (fun c => by omega), vcopy_ne (fun c => by omega), vcopy_ne (fun c => by omega), vcopy_ne (fun c => by omega), vcopy_ne (fun c => by omega), vcopy_ne (fun c => by omega), zset_ne (fun c => by omega), zset_ne (fun c => by omega), zset_ne (fun c => by omega), zset_ne (fun c => by omega), zset_same]
theorem cpLand_1 {h : zH} {s d : Nat} (hd : s + 15 ≤ d ∨ d + 15 ≤ s) : cpLand h s d d 1 = (0, (h s 1).2) := by
  unfold cpLand
  rw [vcopy_ne (fun c => by omega), vcopy_ne (fun c => by omega), vcopy_ne (fun c => by omega), vcopy_ne (fun c => by omega), zset_ne (fun c => by omega), zset_ne (fun c => by omega), vcopy_ne (fun c => by omega), vcopy_ne (fun c => by omega), vcopy_ne (fun c => by omega), vcopy_ne (fun c => by omega), vcopy_ne (fun c => by omega), vcopy_ne (fun c => by omega), vcopy_ne (fun c => by omega), vcopy_ne (fun c => by omega), vcopy_ne (fun c => by omega), zset_ne (fun c => by omega), zset_ne (fun c => by omega), zset_ne (fun c => by omega), zset_same]
theorem cpLand_2 {h : zH} {s d : Nat} (hd : s + 15 ≤ d ∨ d + 15 ≤ s) : cpLand h s d d 2 = (0, (h s 2).2) := by
  unfold cpLand
  rw [vcopy_ne (fun c => by omega), vcopy_ne (fun c => by omega), vcopy_ne (fun c => by omega), vcopy_ne (fun c => by omega), zset_ne (fun c => by omega), zset_ne (fun c => by omega), vcopy_ne (fun c => by omega), vcopy_ne (fun c => by omega), vcopy_ne (fun c => by omega), vcopy_ne (fun c => by omega), vcopy_ne (fun c => by omega), vcopy_ne (fun c => by omega), vcopy_ne (fun c => by omega), vcopy_ne (fun c => by omega), vcopy_ne (fun c => by omega), zset_ne (fun c => by omega), zset_ne (fun c => by omega), zset_same]
theorem cpLand_3 {h : zH} {s d : Nat} (hd : s + 15 ≤ d ∨ d + 15 ≤ s) : cpLand h s d d 3 = (0, (h s 3).2) := by
  unfold cpLand
  rw [vcopy_ne (fun c => by omega), vcopy_ne (fun c => by omega), vcopy_ne (fun c => by omega), vcopy_ne (fun c => by omega), zset_ne (fun c => by omega), zset_ne (fun c => by omega), vcopy_ne (fun c => by omega), vcopy_ne (fun c => by omega), vcopy_ne (fun c => by omega), vcopy_ne (fun c => by omega), vcopy_ne (fun c => by omega), vcopy_ne (fun c => by omega), vcopy_ne (fun c => by omega), vcopy_ne (fun c => by omega), vcopy_ne (fun c => by omega), zset_ne (fun c => by omega), zset_same]
theorem cpLand_4 {h : zH} {s d : Nat} (hd : s + 15 ≤ d ∨ d + 15 ≤ s) : cpLand h s d d 4 = (0, (h s 4).2) := by
  unfold cpLand
  rw [vcopy_ne (fun c => by omega), vcopy_ne (fun c => by omega), vcopy_ne (fun c => by omega), vcopy_ne (fun c => by omega), zset_ne (fun c => by omega), zset_ne (fun c => by omega), vcopy_ne (fun c => by omega), vcopy_ne (fun c => by omega), vcopy_ne (fun c => by omega), vcopy_ne (fun c => by omega), vcopy_ne (fun c => by omega), vcopy_ne (fun c => by omega), vcopy_ne (fun c => by omega), vcopy_ne (fun c => by omega), vcopy_ne (fun c => by omega), zset_same]
theorem cpLand_c1 {h : zH} {s d : Nat} (hd : s + 15 ≤ d ∨ d + 15 ≤ s) : ∀ k, k < 48 → cpLand h s d (d + 1) k = h (s + 1) k := fun k hk => by
  unfold cpLand
  rw [vcopy_ne (fun c => by omega), vcopy_ne (fun c => by omega), vcopy_ne (fun c => by omega), vcopy_ne (fun c => by omega), zset_ne (fun c => by omega), zset_ne (fun c => by omega), vcopy_ne (fun c => by omega), vcopy_ne (fun c => by omega), vcopy_ne (fun c => by omega), vcopy_ne (fun c => by omega), vcopy_ne (fun c => by omega), vcopy_ne (fun c => by omega), vcopy_ne (fun c => by omega), vcopy_ne (fun c => by omega), vcopy_at0 hk, zset_ne (fun c => by omega), zset_ne (fun c => by omega), zset_ne (fun c => by omega), zset_ne (fun c => by omega), zset_ne (fun c => by omega)]
theorem cpLand_c2 {h : zH} {s d : Nat} (hd : s + 15 ≤ d ∨ d + 15 ≤ s) : ∀ k, k < 48 → cpLand h s d (d + 2) k = h (s + 2) k := fun k hk => by
  unfold cpLand
  rw [vcopy_ne (fun c => by omega), vcopy_ne (fun c => by omega), vcopy_ne (fun c => by omega), vcopy_ne (fun c => by omega), zset_ne (fun c => by omega), zset_ne (fun c => by omega), vcopy_ne (fun c => by omega), vcopy_ne (fun c => by omega), vcopy_ne (fun c => by omega), vcopy_ne (fun c => by omega), vcopy_ne (fun c => by omega), vcopy_ne (fun c => by omega), vcopy_ne (fun c => by omega), vcopy_at0 hk, vcopy_ne (fun c => by omega), zset_ne (fun c => by omega), zset_ne (fun c => by omega), zset_ne (fun c => by omega), zset_ne (fun c => by omega), zset_ne (fun c => by omega)]
theorem cpLand_c3 {h : zH} {s d : Nat} (hd : s + 15 ≤ d ∨ d + 15 ≤ s) : ∀ k, k < 144 → cpLand h s d (d + 3) k = h (s + 3) k := fun k hk => by
  unfold cpLand
  rw [vcopy_ne (fun c => by omega), vcopy_ne (fun c => by omega), vcopy_ne (fun c => by omega), vcopy_ne (fun c => by omega), zset_ne (fun c => by omega), zset_ne (fun c => by omega), vcopy_ne (fun c => by omega), vcopy_ne (fun c => by omega), vcopy_ne (fun c => by omega), vcopy_ne (fun c => by omega), vcopy_ne (fun c => by omega), vcopy_ne (fun c => by omega), vcopy_at0 hk, vcopy_ne (fun c => by omega), vcopy_ne (fun c => by omega), zset_ne (fun c => by omega), zset_ne (fun c => by omega), zset_ne (fun c => by omega), zset_ne (fun c => by omega), zset_ne (fun c => by omega)]
theorem cpLand_c4 {h : zH} {s d : Nat} (hd : s + 15 ≤ d ∨ d + 15 ≤ s) : ∀ k, k < 6 → cpLand h s d (d + 4) k = h (s + 4) k := fun k hk => by
  unfold cpLand
  rw [vcopy_ne (fun c => by omega), vcopy_ne (fun c => by omega), vcopy_ne (fun c => by omega), vcopy_ne (fun c => by omega), zset_ne (fun c => by omega), zset_ne (fun c => by omega), vcopy_ne (fun c => by omega), vcopy_ne (fun c => by omega), vcopy_ne (fun c => by omega), vcopy_ne (fun c => by omega), vcopy_ne (fun c => by omega), vcopy_at0 hk, vcopy_ne (fun c => by omega), vcopy_ne (fun c => by omega), vcopy_ne (fun c => by omega), zset_ne (fun c => by omega), zset_ne (fun c => by omega), zset_ne (fun c => by omega), zset_ne (fun c => by omega), zset_ne (fun c => by omega)]
theorem cpLand_c5 {h : zH} {s d : Nat} (hd : s + 15 ≤ d ∨ d + 15 ≤ s) : ∀ k, k < 6 → cpLand h s d (d + 5) k = h (s + 5) k := fun k hk => by
  unfold cpLand
  rw [vcopy_ne (fun c => by omega), vcopy_ne (fun c => by omega), vcopy_ne (fun c => by omega), vcopy_ne (fun c => by omega), zset_ne (fun c => by omega), zset_ne (fun c => by omega), vcopy_ne (fun c => by omega), vcopy_ne (fun c => by omega), vcopy_ne (fun c => by omega), vcopy_ne (fun c => by omega), vcopy_at0 hk, vcopy_ne (fun c => by omega), vcopy_ne (fun c => by omega), vcopy_ne (fun c => by omega), vcopy_ne (fun c => by omega), zset_ne (fun c => by omega), zset_ne (fun c => by omega), zset_ne (fun c => by omega), zset_ne (fun c => by omega), zset_ne (fun c => by omega)]
theorem cpLand_c6 {h : zH} {s d : Nat} (hd : s + 15 ≤ d ∨ d + 15 ≤ s) : ∀ k, k < 6 → cpLand h s d (d + 6) k = h (s + 6) k := fun k hk => by
  unfold cpLand
  rw [vcopy_ne (fun c => by omega), vcopy_ne (fun c => by omega), vcopy_ne (fun c => by omega), vcopy_ne (fun c => by omega), zset_ne (fun c => by omega), zset_ne (fun c => by omega), vcopy_ne (fun c => by omega), vcopy_ne (fun c => by omega), vcopy_ne (fun c => by omega), vcopy_at0 hk, vcopy_ne (fun c => by omega), vcopy_ne (fun c => by omega), vcopy_ne (fun c => by omega), vcopy_ne (fun c => by omega), vcopy_ne (fun c => by omega), zset_ne (fun c => by omega), zset_ne (fun c => by omega), zset_ne (fun c => by omega), zset_ne (fun c => by omega), zset_ne (fun c => by omega)]
theorem cpLand_c7 {h : zH} {s d : Nat} (hd : s + 15 ≤ d ∨ d + 15 ≤ s) : ∀ k, k < 6 → cpLand h s d (d + 7) k = h (s + 7) k := fun k hk => by
  unfold cpLand
  rw [vcopy_ne (fun c => by omega), vcopy_ne (fun c => by omega), vcopy_ne (fun c => by omega), vcopy_ne (fun c => by omega), zset_ne (fun c => by omega), zset_ne (fun c => by omega), vcopy_ne (fun c => by omega), vcopy_ne (fun c => by omega), vcopy_at0 hk, vcopy_ne (fun c => by omega), vcopy_ne (fun c => by omega), vcopy_ne (fun c => by omega), vcopy_ne (fun c => by omega), vcopy_ne (fun c => by omega), vcopy_ne (fun c => by omega), zset_ne (fun c => by omega), zset_ne (fun c => by omega), zset_ne (fun c => by omega), zset_ne (fun c => by omega), zset_ne (fun c => by omega)]
theorem cpLand_c8 {h : zH} {s d : Nat} (hd : s + 15 ≤ d ∨ d + 15 ≤ s) : ∀ k, k < 6 → cpLand h s d (d + 8) k = h (s + 8) k := fun k hk => by
  unfold cpLand
  rw [vcopy_ne (fun c => by omega), vcopy_ne (fun c => by omega), vcopy_ne (fun c => by omega), vcopy_ne (fun c => by omega), zset_ne (fun c => by omega), zset_ne (fun c => by omega), vcopy_ne (fun c => by omega), vcopy_at0 hk, vcopy_ne (fun c => by omega), vcopy_ne (fun c => by omega), vcopy_ne (fun c => by omega), vcopy_ne (fun c => by omega), vcopy_ne (fun c => by omega), vcopy_ne (fun c => by omega), vcopy_ne (fun c => by omega), zset_ne (fun c => by omega), zset_ne (fun c => by omega), zset_ne (fun c => by omega), zset_ne (fun c => by omega), zset_ne (fun c => by omega)]
theorem cpLand_c9 {h : zH} {s d : Nat} (hd : s + 15 ≤ d ∨ d + 15 ≤ s) : ∀ k, k < 6 → cpLand h s d (d + 9) k = h (s + 9) k := fun k hk => by
  unfold cpLand
  rw [vcopy_ne (fun c => by omega), vcopy_ne (fun c => by omega), vcopy_ne (fun c => by omega), vcopy_ne (fun c => by omega), zset_ne (fun c => by omega), zset_ne (fun c => by omega), vcopy_at0 hk, vcopy_ne (fun c => by omega), vcopy_ne (fun c => by omega), vcopy_ne (fun c => by omega), vcopy_ne (fun c => by omega), vcopy_ne (fun c => by omega), vcopy_ne (fun c => by omega), vcopy_ne (fun c => by omega), vcopy_ne (fun c => by omega), zset_ne (fun c => by omega), zset_ne (fun c => by omega), zset_ne (fun c => by omega), zset_ne (fun c => by omega), zset_ne (fun c => by omega)]
theorem cpLand_y0 {h : zH} {s d : Nat} (hd : s + 15 ≤ d ∨ d + 15 ≤ s) : cpLand h s d (d + 10) 0 = (0, (h (s + 10) 0).2) := by
  unfold cpLand
  rw [vcopy_ne (fun c => by omega), vcopy_ne (fun c => by omega), vcopy_ne (fun c => by omega), vcopy_ne (fun c => by omega), zset_ne (fun c => by omega), zset_same]
theorem cpLand_y1 {h : zH} {s d : Nat} (hd : s + 15 ≤ d ∨ d + 15 ≤ s) : cpLand h s d (d + 10) 1 = (0, (h (s + 10) 1).2) := by
  unfold cpLand
  rw [vcopy_ne (fun c => by omega), vcopy_ne (fun c => by omega), vcopy_ne (fun c => by omega), vcopy_ne (fun c => by omega), zset_same]
theorem cpLand_c11 {h : zH} {s d : Nat} (hd : s + 15 ≤ d ∨ d + 15 ≤ s) : ∀ k, k < 60 → cpLand h s d (d + 11) k = h (s + 11) k := fun k hk => by
  unfold cpLand
  rw [vcopy_ne (fun c => by omega), vcopy_ne (fun c => by omega), vcopy_ne (fun c => by omega), vcopy_at0 hk, zset_ne (fun c => by omega), zset_ne (fun c => by omega), vcopy_ne (fun c => by omega), vcopy_ne (fun c => by omega), vcopy_ne (fun c => by omega), vcopy_ne (fun c => by omega), vcopy_ne (fun c => by omega), vcopy_ne (fun c => by omega), vcopy_ne (fun c => by omega), vcopy_ne (fun c => by omega), vcopy_ne (fun c => by omega), zset_ne (fun c => by omega), zset_ne (fun c => by omega), zset_ne (fun c => by omega), zset_ne (fun c => by omega), zset_ne (fun c => by omega)]
theorem cpLand_c12 {h : zH} {s d : Nat} (hd : s + 15 ≤ d ∨ d + 15 ≤ s) : ∀ k, k < 60 → cpLand h s d (d + 12) k = h (s + 12) k := fun k hk => by
  unfold cpLand
  rw [vcopy_ne (fun c => by omega), vcopy_ne (fun c => by omega), vcopy_at0 hk, vcopy_ne (fun c => by omega), zset_ne (fun c => by omega), zset_ne (fun c => by omega), vcopy_ne (fun c => by omega), vcopy_ne (fun c => by omega), vcopy_ne (fun c => by omega), vcopy_ne (fun c => by omega), vcopy_ne (fun c => by omega), vcopy_ne (fun c => by omega), vcopy_ne (fun c => by omega), vcopy_ne (fun c => by omega), vcopy_ne (fun c => by omega), zset_ne (fun c => by omega), zset_ne (fun c => by omega), zset_ne (fun c => by omega), zset_ne (fun c => by omega), zset_ne (fun c => by omega)]
theorem cpLand_c13 {h : zH} {s d : Nat} (hd : s + 15 ≤ d ∨ d + 15 ≤ s) : ∀ k, k < 60 → cpLand h s d (d + 13) k = h (s + 13) k := fun k hk => by
  unfold cpLand
  rw [vcopy_ne (fun c => by omega), vcopy_at0 hk, vcopy_ne (fun c => by omega), vcopy_ne (fun c => by omega), zset_ne (fun c => by omega), zset_ne (fun c => by omega), vcopy_ne (fun c => by omega), vcopy_ne (fun c => by omega), vcopy_ne (fun c => by omega), vcopy_ne (fun c => by omega), vcopy_ne (fun c => by omega), vcopy_ne (fun c => by omega), vcopy_ne (fun c => by omega), vcopy_ne (fun c => by omega), vcopy_ne (fun c => by omega), zset_ne (fun c => by omega), zset_ne (fun c => by omega), zset_ne (fun c => by omega), zset_ne (fun c => by omega), zset_ne (fun c => by omega)]
theorem cpLand_c14 {h : zH} {s d : Nat} (hd : s + 15 ≤ d ∨ d + 15 ≤ s) : ∀ k, k < 60 → cpLand h s d (d + 14) k = h (s + 14) k := fun k hk => by
  unfold cpLand
  rw [vcopy_at0 hk, vcopy_ne (fun c => by omega), vcopy_ne (fun c => by omega), vcopy_ne (fun c => by omega), zset_ne (fun c => by omega), zset_ne (fun c => by omega), vcopy_ne (fun c => by omega), vcopy_ne (fun c => by omega), vcopy_ne (fun c => by omega), vcopy_ne (fun c => by omega), vcopy_ne (fun c => by omega), vcopy_ne (fun c => by omega), vcopy_ne (fun c => by omega), vcopy_ne (fun c => by omega), vcopy_ne (fun c => by omega), zset_ne (fun c => by omega), zset_ne (fun c => by omega), zset_ne (fun c => by omega), zset_ne (fun c => by omega), zset_ne (fun c => by omega)]
theorem zHv.eta' {h : zH} (hv : zHv h) {r k : Nat} (hc : vCode r k = some 0) : ((0, (h r k).2) : zV) = h r k := (hv.eta hc).symm
theorem cOb.c1 {c : Nat} (hc : cOb c) : (∀ k, k < 5 → vCode c k = some 0) ∧ vCode (c + 10) 0 = some 0 := by
  rcases hc with rfl | rfl | rfl | rfl | rfl <;> decide +kernel
theorem cpLand_K {h : zH} (hv : zHv h) {s d : Nat} (hs : cOb s) (hd : s + 15 ≤ d ∨ d + 15 ≤ s) : cK s d h (cpLand h s d) := by
  obtain ⟨e1, e2⟩ := hs.c1
  refine ⟨fun k hk => ?_, cpLand_c1 hd, cpLand_c2 hd, fun k hk => ⟨cpLand_c4 hd k hk, cpLand_c5 hd k hk, cpLand_c7 hd k hk⟩, (cpLand_y0 hd).trans (hv.eta' e2)⟩
  have : k = 0 ∨ k = 1 ∨ k = 2 ∨ k = 3 := by omega
  rcases this with rfl | rfl | rfl | rfl
  · exact (cpLand_0 hd).trans (hv.eta' (e1 0 (by decide)))
  · exact (cpLand_1 hd).trans (hv.eta' (e1 1 (by decide)))
  · exact (cpLand_2 hd).trans (hv.eta' (e1 2 (by decide)))
  · exact (cpLand_3 hd).trans (hv.eta' (e1 3 (by decide)))
