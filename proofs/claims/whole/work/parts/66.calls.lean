/-! the law's thirty calls -/
theorem zx72 : Cond.methodLink RL 13 yX5_vine ∈ zbig := zbigM 195 (by decide +kernel) (by decide +kernel)
theorem zx73 : Cond.instanceMethod yX5_vine ∈ zbig := zbigM 196 (by decide +kernel) (by decide +kernel)
theorem zx74 : Cond.selects yX5_vine.cls yX5_vine yX5_vine ∈ zbig := zbigM 197 (by decide +kernel) (by decide +kernel)
theorem zx75 : Cond.initialized yX5_vine.cls ∈ zbig := zbigM 50 (by decide +kernel) (by decide +kernel)
theorem zx76 : Cond.code yX5_vine cX5_vine 8 (some .int) ∈ zbig := zbigM 198 (by decide +kernel) (by decide +kernel)
theorem zx77 : Cond.methodLink RL 17 yX6_vine ∈ zbig := zbigM 636 (by decide +kernel) (by decide +kernel)
theorem zx78 : Cond.instanceMethod yX6_vine ∈ zbig := zbigM 637 (by decide +kernel) (by decide +kernel)
theorem zx79 : Cond.selects yX6_vine.cls yX6_vine yX6_vine ∈ zbig := zbigM 638 (by decide +kernel) (by decide +kernel)
theorem zx80 : Cond.initialized yX6_vine.cls ∈ zbig := zbigM 55 (by decide +kernel) (by decide +kernel)
theorem zx81 : Cond.code yX6_vine cX6_vine 8 (some .int) ∈ zbig := zbigM 639 (by decide +kernel) (by decide +kernel)
theorem zx82 : Cond.methodLink RL 18 yX5_ofPost ∈ zbig := zbigM 261 (by decide +kernel) (by decide +kernel)
theorem zx83 : Cond.instanceMethod yX5_ofPost ∈ zbig := zbigM 262 (by decide +kernel) (by decide +kernel)
theorem zx84 : Cond.selects yX5_ofPost.cls yX5_ofPost yX5_ofPost ∈ zbig := zbigM 263 (by decide +kernel) (by decide +kernel)
theorem zx85 : Cond.initialized yX5_ofPost.cls ∈ zbig := zbigM 50 (by decide +kernel) (by decide +kernel)
theorem zx86 : Cond.code yX5_ofPost cX5_ofPost 3 (some .int) ∈ zbig := zbigM 264 (by decide +kernel) (by decide +kernel)
theorem zx87 : Cond.methodLink RL 22 yX6_ofPost ∈ zbig := zbigM 683 (by decide +kernel) (by decide +kernel)
theorem zx88 : Cond.instanceMethod yX6_ofPost ∈ zbig := zbigM 684 (by decide +kernel) (by decide +kernel)
theorem zx89 : Cond.selects yX6_ofPost.cls yX6_ofPost yX6_ofPost ∈ zbig := zbigM 685 (by decide +kernel) (by decide +kernel)
theorem zx90 : Cond.initialized yX6_ofPost.cls ∈ zbig := zbigM 55 (by decide +kernel) (by decide +kernel)
theorem zx91 : Cond.code yX6_ofPost cX6_ofPost 3 (some .int) ∈ zbig := zbigM 686 (by decide +kernel) (by decide +kernel)
theorem zx92 : Cond.methodLink RL 23 yX5_load ∈ zbig := zbigM 286 (by decide +kernel) (by decide +kernel)
theorem zx93 : Cond.instanceMethod yX5_load ∈ zbig := zbigM 287 (by decide +kernel) (by decide +kernel)
theorem zx94 : Cond.selects yX5_load.cls yX5_load yX5_load ∈ zbig := zbigM 288 (by decide +kernel) (by decide +kernel)
theorem zx95 : Cond.initialized yX5_load.cls ∈ zbig := zbigM 50 (by decide +kernel) (by decide +kernel)
theorem zx96 : Cond.code yX5_load cX5_load 4 (some .int) ∈ zbig := zbigM 289 (by decide +kernel) (by decide +kernel)
theorem zx97 : Cond.methodLink RL 26 yX6_load ∈ zbig := zbigM 706 (by decide +kernel) (by decide +kernel)
theorem zx98 : Cond.instanceMethod yX6_load ∈ zbig := zbigM 707 (by decide +kernel) (by decide +kernel)
theorem zx99 : Cond.selects yX6_load.cls yX6_load yX6_load ∈ zbig := zbigM 708 (by decide +kernel) (by decide +kernel)
theorem zx100 : Cond.initialized yX6_load.cls ∈ zbig := zbigM 55 (by decide +kernel) (by decide +kernel)
theorem zx101 : Cond.code yX6_load cX6_load 4 (some .int) ∈ zbig := zbigM 709 (by decide +kernel) (by decide +kernel)
theorem zx102 : Cond.methodLink RL 27 yX5_row ∈ zbig := zbigM 290 (by decide +kernel) (by decide +kernel)
theorem zx103 : Cond.instanceMethod yX5_row ∈ zbig := zbigM 291 (by decide +kernel) (by decide +kernel)
theorem zx104 : Cond.selects yX5_row.cls yX5_row yX5_row ∈ zbig := zbigM 292 (by decide +kernel) (by decide +kernel)
theorem zx105 : Cond.initialized yX5_row.cls ∈ zbig := zbigM 50 (by decide +kernel) (by decide +kernel)
theorem zx106 : Cond.code yX5_row cX5_row 2 (some .int) ∈ zbig := zbigM 293 (by decide +kernel) (by decide +kernel)
theorem zx107 : Cond.methodLink RL 31 yX6_row ∈ zbig := zbigM 710 (by decide +kernel) (by decide +kernel)
theorem zx108 : Cond.instanceMethod yX6_row ∈ zbig := zbigM 711 (by decide +kernel) (by decide +kernel)
theorem zx109 : Cond.selects yX6_row.cls yX6_row yX6_row ∈ zbig := zbigM 712 (by decide +kernel) (by decide +kernel)
theorem zx110 : Cond.initialized yX6_row.cls ∈ zbig := zbigM 55 (by decide +kernel) (by decide +kernel)
theorem zx111 : Cond.code yX6_row cX6_row 2 (some .int) ∈ zbig := zbigM 713 (by decide +kernel) (by decide +kernel)
theorem zx112 : Cond.methodLink RL 32 yX5_graft ∈ zbig := zbigM 303 (by decide +kernel) (by decide +kernel)
theorem zx113 : Cond.instanceMethod yX5_graft ∈ zbig := zbigM 304 (by decide +kernel) (by decide +kernel)
theorem zx114 : Cond.selects yX5_graft.cls yX5_graft yX5_graft ∈ zbig := zbigM 305 (by decide +kernel) (by decide +kernel)
theorem zx115 : Cond.initialized yX5_graft.cls ∈ zbig := zbigM 50 (by decide +kernel) (by decide +kernel)
theorem zx116 : Cond.code yX5_graft cX5_graft 3 (some .int) ∈ zbig := zbigM 306 (by decide +kernel) (by decide +kernel)
theorem zx117 : Cond.methodLink RL 35 yX6_graft ∈ zbig := zbigM 718 (by decide +kernel) (by decide +kernel)
theorem zx118 : Cond.instanceMethod yX6_graft ∈ zbig := zbigM 719 (by decide +kernel) (by decide +kernel)
theorem zx119 : Cond.selects yX6_graft.cls yX6_graft yX6_graft ∈ zbig := zbigM 720 (by decide +kernel) (by decide +kernel)
theorem zx120 : Cond.initialized yX6_graft.cls ∈ zbig := zbigM 55 (by decide +kernel) (by decide +kernel)
theorem zx121 : Cond.code yX6_graft cX6_graft 4 (some .int) ∈ zbig := zbigM 721 (by decide +kernel) (by decide +kernel)
theorem zx122 : Cond.methodLink RL 36 yX5_day ∈ zbig := zbigM 315 (by decide +kernel) (by decide +kernel)
theorem zx123 : Cond.instanceMethod yX5_day ∈ zbig := zbigM 316 (by decide +kernel) (by decide +kernel)
theorem zx124 : Cond.selects yX5_day.cls yX5_day yX5_day ∈ zbig := zbigM 317 (by decide +kernel) (by decide +kernel)
theorem zx125 : Cond.initialized yX5_day.cls ∈ zbig := zbigM 50 (by decide +kernel) (by decide +kernel)
theorem zx126 : Cond.code yX5_day cX5_day 10 (some .int) ∈ zbig := zbigM 318 (by decide +kernel) (by decide +kernel)
theorem zx127 : Cond.methodLink RL 40 yX6_day ∈ zbig := zbigM 730 (by decide +kernel) (by decide +kernel)
theorem zx128 : Cond.instanceMethod yX6_day ∈ zbig := zbigM 731 (by decide +kernel) (by decide +kernel)
theorem zx129 : Cond.selects yX6_day.cls yX6_day yX6_day ∈ zbig := zbigM 732 (by decide +kernel) (by decide +kernel)
theorem zx130 : Cond.initialized yX6_day.cls ∈ zbig := zbigM 55 (by decide +kernel) (by decide +kernel)
theorem zx131 : Cond.code yX6_day cX6_day 11 (some .int) ∈ zbig := zbigM 733 (by decide +kernel) (by decide +kernel)
theorem zx132 : Cond.methodLink RL 41 yX5_far ∈ zbig := zbigM 370 (by decide +kernel) (by decide +kernel)
theorem zx133 : Cond.instanceMethod yX5_far ∈ zbig := zbigM 371 (by decide +kernel) (by decide +kernel)
theorem zx134 : Cond.selects yX5_far.cls yX5_far yX5_far ∈ zbig := zbigM 372 (by decide +kernel) (by decide +kernel)
theorem zx135 : Cond.initialized yX5_far.cls ∈ zbig := zbigM 50 (by decide +kernel) (by decide +kernel)
theorem zx136 : Cond.code yX5_far cX5_far 3 (some .int) ∈ zbig := zbigM 373 (by decide +kernel) (by decide +kernel)
theorem zx137 : Cond.methodLink RL 44 yX6_far ∈ zbig := zbigM 766 (by decide +kernel) (by decide +kernel)
theorem zx138 : Cond.instanceMethod yX6_far ∈ zbig := zbigM 767 (by decide +kernel) (by decide +kernel)
theorem zx139 : Cond.selects yX6_far.cls yX6_far yX6_far ∈ zbig := zbigM 768 (by decide +kernel) (by decide +kernel)
theorem zx140 : Cond.initialized yX6_far.cls ∈ zbig := zbigM 55 (by decide +kernel) (by decide +kernel)
theorem zx141 : Cond.code yX6_far cX6_far 3 (some .int) ∈ zbig := zbigM 769 (by decide +kernel) (by decide +kernel)
theorem zx142 : Cond.methodLink RL 45 yX5_way ∈ zbig := zbigM 374 (by decide +kernel) (by decide +kernel)
theorem zx143 : Cond.instanceMethod yX5_way ∈ zbig := zbigM 375 (by decide +kernel) (by decide +kernel)
theorem zx144 : Cond.selects yX5_way.cls yX5_way yX5_way ∈ zbig := zbigM 376 (by decide +kernel) (by decide +kernel)
theorem zx145 : Cond.initialized yX5_way.cls ∈ zbig := zbigM 50 (by decide +kernel) (by decide +kernel)
theorem zx146 : Cond.code yX5_way cX5_way 5 (some .int) ∈ zbig := zbigM 377 (by decide +kernel) (by decide +kernel)
theorem zx147 : Cond.methodLink RL 49 yX6_way ∈ zbig := zbigM 770 (by decide +kernel) (by decide +kernel)
theorem zx148 : Cond.instanceMethod yX6_way ∈ zbig := zbigM 771 (by decide +kernel) (by decide +kernel)
theorem zx149 : Cond.selects yX6_way.cls yX6_way yX6_way ∈ zbig := zbigM 772 (by decide +kernel) (by decide +kernel)
theorem zx150 : Cond.initialized yX6_way.cls ∈ zbig := zbigM 55 (by decide +kernel) (by decide +kernel)
theorem zx151 : Cond.code yX6_way cX6_way 6 (some .int) ∈ zbig := zbigM 773 (by decide +kernel) (by decide +kernel)
theorem zx152 : Cond.methodLink RL 50 yX5_middle ∈ zbig := zbigM 382 (by decide +kernel) (by decide +kernel)
theorem zx153 : Cond.instanceMethod yX5_middle ∈ zbig := zbigM 383 (by decide +kernel) (by decide +kernel)
theorem zx154 : Cond.selects yX5_middle.cls yX5_middle yX5_middle ∈ zbig := zbigM 384 (by decide +kernel) (by decide +kernel)
theorem zx155 : Cond.initialized yX5_middle.cls ∈ zbig := zbigM 50 (by decide +kernel) (by decide +kernel)
theorem zx156 : Cond.code yX5_middle cX5_middle 2 (some .int) ∈ zbig := zbigM 385 (by decide +kernel) (by decide +kernel)
theorem zx157 : Cond.methodLink RL 53 yX6_middle ∈ zbig := zbigM 774 (by decide +kernel) (by decide +kernel)
theorem zx158 : Cond.instanceMethod yX6_middle ∈ zbig := zbigM 775 (by decide +kernel) (by decide +kernel)
theorem zx159 : Cond.selects yX6_middle.cls yX6_middle yX6_middle ∈ zbig := zbigM 776 (by decide +kernel) (by decide +kernel)
theorem zx160 : Cond.initialized yX6_middle.cls ∈ zbig := zbigM 55 (by decide +kernel) (by decide +kernel)
theorem zx161 : Cond.code yX6_middle cX6_middle 6 (some .int) ∈ zbig := zbigM 777 (by decide +kernel) (by decide +kernel)
theorem zx162 : Cond.methodLink RL 54 yX5_number ∈ zbig := zbigM 390 (by decide +kernel) (by decide +kernel)
theorem zx163 : Cond.instanceMethod yX5_number ∈ zbig := zbigM 391 (by decide +kernel) (by decide +kernel)
theorem zx164 : Cond.selects yX5_number.cls yX5_number yX5_number ∈ zbig := zbigM 392 (by decide +kernel) (by decide +kernel)
theorem zx165 : Cond.initialized yX5_number.cls ∈ zbig := zbigM 50 (by decide +kernel) (by decide +kernel)
theorem zx166 : Cond.code yX5_number cX5_number 1 (some .int) ∈ zbig := zbigM 393 (by decide +kernel) (by decide +kernel)
theorem zx167 : Cond.methodLink RL 58 yX6_number ∈ zbig := zbigM 778 (by decide +kernel) (by decide +kernel)
theorem zx168 : Cond.instanceMethod yX6_number ∈ zbig := zbigM 779 (by decide +kernel) (by decide +kernel)
theorem zx169 : Cond.selects yX6_number.cls yX6_number yX6_number ∈ zbig := zbigM 780 (by decide +kernel) (by decide +kernel)
theorem zx170 : Cond.initialized yX6_number.cls ∈ zbig := zbigM 55 (by decide +kernel) (by decide +kernel)
theorem zx171 : Cond.code yX6_number cX6_number 1 (some .int) ∈ zbig := zbigM 781 (by decide +kernel) (by decide +kernel)
theorem zx172 : Cond.methodLink RL 59 yX5_alike ∈ zbig := zbigM 394 (by decide +kernel) (by decide +kernel)
theorem zx173 : Cond.instanceMethod yX5_alike ∈ zbig := zbigM 395 (by decide +kernel) (by decide +kernel)
theorem zx174 : Cond.selects yX5_alike.cls yX5_alike yX5_alike ∈ zbig := zbigM 396 (by decide +kernel) (by decide +kernel)
theorem zx175 : Cond.initialized yX5_alike.cls ∈ zbig := zbigM 50 (by decide +kernel) (by decide +kernel)
theorem zx176 : Cond.code yX5_alike cX5_alike 1 (some .int) ∈ zbig := zbigM 397 (by decide +kernel) (by decide +kernel)
theorem zx177 : Cond.methodLink RL 62 yX6_alike ∈ zbig := zbigM 782 (by decide +kernel) (by decide +kernel)
theorem zx178 : Cond.instanceMethod yX6_alike ∈ zbig := zbigM 783 (by decide +kernel) (by decide +kernel)
theorem zx179 : Cond.selects yX6_alike.cls yX6_alike yX6_alike ∈ zbig := zbigM 784 (by decide +kernel) (by decide +kernel)
theorem zx180 : Cond.initialized yX6_alike.cls ∈ zbig := zbigM 55 (by decide +kernel) (by decide +kernel)
theorem zx181 : Cond.code yX6_alike cX6_alike 4 (some .int) ∈ zbig := zbigM 785 (by decide +kernel) (by decide +kernel)
theorem zx182 : Cond.methodLink RL 63 yX5_pairs ∈ zbig := zbigM 419 (by decide +kernel) (by decide +kernel)
theorem zx183 : Cond.instanceMethod yX5_pairs ∈ zbig := zbigM 420 (by decide +kernel) (by decide +kernel)
theorem zx184 : Cond.selects yX5_pairs.cls yX5_pairs yX5_pairs ∈ zbig := zbigM 421 (by decide +kernel) (by decide +kernel)
theorem zx185 : Cond.initialized yX5_pairs.cls ∈ zbig := zbigM 50 (by decide +kernel) (by decide +kernel)
theorem zx186 : Cond.code yX5_pairs cX5_pairs 1 (some .int) ∈ zbig := zbigM 422 (by decide +kernel) (by decide +kernel)
theorem zx187 : Cond.methodLink RL 66 yX6_pairs ∈ zbig := zbigM 798 (by decide +kernel) (by decide +kernel)
theorem zx188 : Cond.instanceMethod yX6_pairs ∈ zbig := zbigM 799 (by decide +kernel) (by decide +kernel)
theorem zx189 : Cond.selects yX6_pairs.cls yX6_pairs yX6_pairs ∈ zbig := zbigM 800 (by decide +kernel) (by decide +kernel)
theorem zx190 : Cond.initialized yX6_pairs.cls ∈ zbig := zbigM 55 (by decide +kernel) (by decide +kernel)
theorem zx191 : Cond.code yX6_pairs cX6_pairs 8 (some .int) ∈ zbig := zbigM 801 (by decide +kernel) (by decide +kernel)
theorem zx192 : Cond.methodLink RL 67 yX5_loners ∈ zbig := zbigM 427 (by decide +kernel) (by decide +kernel)
theorem zx193 : Cond.instanceMethod yX5_loners ∈ zbig := zbigM 428 (by decide +kernel) (by decide +kernel)
theorem zx194 : Cond.selects yX5_loners.cls yX5_loners yX5_loners ∈ zbig := zbigM 429 (by decide +kernel) (by decide +kernel)
theorem zx195 : Cond.initialized yX5_loners.cls ∈ zbig := zbigM 50 (by decide +kernel) (by decide +kernel)
theorem zx196 : Cond.code yX5_loners cX5_loners 4 (some .int) ∈ zbig := zbigM 430 (by decide +kernel) (by decide +kernel)
theorem zx197 : Cond.methodLink RL 70 yX6_loners ∈ zbig := zbigM 806 (by decide +kernel) (by decide +kernel)
theorem zx198 : Cond.instanceMethod yX6_loners ∈ zbig := zbigM 807 (by decide +kernel) (by decide +kernel)
theorem zx199 : Cond.selects yX6_loners.cls yX6_loners yX6_loners ∈ zbig := zbigM 808 (by decide +kernel) (by decide +kernel)
theorem zx200 : Cond.initialized yX6_loners.cls ∈ zbig := zbigM 55 (by decide +kernel) (by decide +kernel)
theorem zx201 : Cond.code yX6_loners cX6_loners 7 (some .int) ∈ zbig := zbigM 809 (by decide +kernel) (by decide +kernel)
theorem zx202 : Cond.methodLink RL 71 yX5_part ∈ zbig := zbigM 435 (by decide +kernel) (by decide +kernel)
theorem zx203 : Cond.instanceMethod yX5_part ∈ zbig := zbigM 436 (by decide +kernel) (by decide +kernel)
theorem zx204 : Cond.selects yX5_part.cls yX5_part yX5_part ∈ zbig := zbigM 437 (by decide +kernel) (by decide +kernel)
theorem zx205 : Cond.initialized yX5_part.cls ∈ zbig := zbigM 50 (by decide +kernel) (by decide +kernel)
theorem zx206 : Cond.code yX5_part cX5_part 5 (some .int) ∈ zbig := zbigM 438 (by decide +kernel) (by decide +kernel)
theorem zx207 : Cond.methodLink RL 74 yX6_part ∈ zbig := zbigM 810 (by decide +kernel) (by decide +kernel)
theorem zx208 : Cond.instanceMethod yX6_part ∈ zbig := zbigM 811 (by decide +kernel) (by decide +kernel)
theorem zx209 : Cond.selects yX6_part.cls yX6_part yX6_part ∈ zbig := zbigM 812 (by decide +kernel) (by decide +kernel)
theorem zx210 : Cond.initialized yX6_part.cls ∈ zbig := zbigM 55 (by decide +kernel) (by decide +kernel)
theorem zx211 : Cond.code yX6_part cX6_part 5 (some .int) ∈ zbig := zbigM 813 (by decide +kernel) (by decide +kernel)
theorem zx212 : Cond.methodLink RL 75 yX5_reading ∈ zbig := zbigM 439 (by decide +kernel) (by decide +kernel)
theorem zx213 : Cond.instanceMethod yX5_reading ∈ zbig := zbigM 440 (by decide +kernel) (by decide +kernel)
theorem zx214 : Cond.selects yX5_reading.cls yX5_reading yX5_reading ∈ zbig := zbigM 441 (by decide +kernel) (by decide +kernel)
theorem zx215 : Cond.initialized yX5_reading.cls ∈ zbig := zbigM 50 (by decide +kernel) (by decide +kernel)
theorem zx216 : Cond.code yX5_reading cX5_reading 4 (some .int) ∈ zbig := zbigM 442 (by decide +kernel) (by decide +kernel)
theorem zx217 : Cond.methodLink RL 78 yX6_reading ∈ zbig := zbigM 814 (by decide +kernel) (by decide +kernel)
theorem zx218 : Cond.instanceMethod yX6_reading ∈ zbig := zbigM 815 (by decide +kernel) (by decide +kernel)
theorem zx219 : Cond.selects yX6_reading.cls yX6_reading yX6_reading ∈ zbig := zbigM 816 (by decide +kernel) (by decide +kernel)
theorem zx220 : Cond.initialized yX6_reading.cls ∈ zbig := zbigM 55 (by decide +kernel) (by decide +kernel)
theorem zx221 : Cond.code yX6_reading cX6_reading 4 (some .int) ∈ zbig := zbigM 817 (by decide +kernel) (by decide +kernel)
theorem zx222 : Cond.methodLink RL 79 yX5_back ∈ zbig := zbigM 447 (by decide +kernel) (by decide +kernel)
theorem zx223 : Cond.instanceMethod yX5_back ∈ zbig := zbigM 448 (by decide +kernel) (by decide +kernel)
theorem zx224 : Cond.selects yX5_back.cls yX5_back yX5_back ∈ zbig := zbigM 449 (by decide +kernel) (by decide +kernel)
theorem zx225 : Cond.initialized yX5_back.cls ∈ zbig := zbigM 50 (by decide +kernel) (by decide +kernel)
theorem zx226 : Cond.code yX5_back cX5_back 2 (some .int) ∈ zbig := zbigM 450 (by decide +kernel) (by decide +kernel)
theorem zx227 : Cond.methodLink RL 82 yX6_back ∈ zbig := zbigM 818 (by decide +kernel) (by decide +kernel)
theorem zx228 : Cond.instanceMethod yX6_back ∈ zbig := zbigM 819 (by decide +kernel) (by decide +kernel)
theorem zx229 : Cond.selects yX6_back.cls yX6_back yX6_back ∈ zbig := zbigM 820 (by decide +kernel) (by decide +kernel)
theorem zx230 : Cond.initialized yX6_back.cls ∈ zbig := zbigM 55 (by decide +kernel) (by decide +kernel)
theorem zx231 : Cond.code yX6_back cX6_back 2 (some .int) ∈ zbig := zbigM 821 (by decide +kernel) (by decide +kernel)
theorem zx232 : Cond.methodLink RL 83 yX5_loadings ∈ zbig := zbigM 451 (by decide +kernel) (by decide +kernel)
theorem zx233 : Cond.instanceMethod yX5_loadings ∈ zbig := zbigM 452 (by decide +kernel) (by decide +kernel)
theorem zx234 : Cond.selects yX5_loadings.cls yX5_loadings yX5_loadings ∈ zbig := zbigM 453 (by decide +kernel) (by decide +kernel)
theorem zx235 : Cond.initialized yX5_loadings.cls ∈ zbig := zbigM 50 (by decide +kernel) (by decide +kernel)
theorem zx236 : Cond.code yX5_loadings cX5_loadings 5 (some .int) ∈ zbig := zbigM 454 (by decide +kernel) (by decide +kernel)
theorem zx237 : Cond.methodLink RL 86 yX6_loadings ∈ zbig := zbigM 822 (by decide +kernel) (by decide +kernel)
theorem zx238 : Cond.instanceMethod yX6_loadings ∈ zbig := zbigM 823 (by decide +kernel) (by decide +kernel)
theorem zx239 : Cond.selects yX6_loadings.cls yX6_loadings yX6_loadings ∈ zbig := zbigM 824 (by decide +kernel) (by decide +kernel)
theorem zx240 : Cond.initialized yX6_loadings.cls ∈ zbig := zbigM 55 (by decide +kernel) (by decide +kernel)
theorem zx241 : Cond.code yX6_loadings cX6_loadings 5 (some .int) ∈ zbig := zbigM 825 (by decide +kernel) (by decide +kernel)
theorem zx242 : Cond.methodLink RL 87 yX5_kinds ∈ zbig := zbigM 466 (by decide +kernel) (by decide +kernel)
theorem zx243 : Cond.instanceMethod yX5_kinds ∈ zbig := zbigM 467 (by decide +kernel) (by decide +kernel)
theorem zx244 : Cond.selects yX5_kinds.cls yX5_kinds yX5_kinds ∈ zbig := zbigM 468 (by decide +kernel) (by decide +kernel)
theorem zx245 : Cond.initialized yX5_kinds.cls ∈ zbig := zbigM 50 (by decide +kernel) (by decide +kernel)
theorem zx246 : Cond.code yX5_kinds cX5_kinds 5 (some .int) ∈ zbig := zbigM 469 (by decide +kernel) (by decide +kernel)
theorem zx247 : Cond.methodLink RL 90 yX6_kinds ∈ zbig := zbigM 834 (by decide +kernel) (by decide +kernel)
theorem zx248 : Cond.instanceMethod yX6_kinds ∈ zbig := zbigM 835 (by decide +kernel) (by decide +kernel)
theorem zx249 : Cond.selects yX6_kinds.cls yX6_kinds yX6_kinds ∈ zbig := zbigM 836 (by decide +kernel) (by decide +kernel)
theorem zx250 : Cond.initialized yX6_kinds.cls ∈ zbig := zbigM 55 (by decide +kernel) (by decide +kernel)
theorem zx251 : Cond.code yX6_kinds cX6_kinds 5 (some .int) ∈ zbig := zbigM 837 (by decide +kernel) (by decide +kernel)
theorem zx252 : Cond.methodLink RL 91 yX5_odds ∈ zbig := zbigM 470 (by decide +kernel) (by decide +kernel)
theorem zx253 : Cond.instanceMethod yX5_odds ∈ zbig := zbigM 471 (by decide +kernel) (by decide +kernel)
theorem zx254 : Cond.selects yX5_odds.cls yX5_odds yX5_odds ∈ zbig := zbigM 472 (by decide +kernel) (by decide +kernel)
theorem zx255 : Cond.initialized yX5_odds.cls ∈ zbig := zbigM 50 (by decide +kernel) (by decide +kernel)
theorem zx256 : Cond.code yX5_odds cX5_odds 7 (some .long) ∈ zbig := zbigM 473 (by decide +kernel) (by decide +kernel)
theorem zx257 : Cond.methodLink RL 95 yX6_odds ∈ zbig := zbigM 838 (by decide +kernel) (by decide +kernel)
theorem zx258 : Cond.instanceMethod yX6_odds ∈ zbig := zbigM 839 (by decide +kernel) (by decide +kernel)
theorem zx259 : Cond.selects yX6_odds.cls yX6_odds yX6_odds ∈ zbig := zbigM 840 (by decide +kernel) (by decide +kernel)
theorem zx260 : Cond.initialized yX6_odds.cls ∈ zbig := zbigM 55 (by decide +kernel) (by decide +kernel)
theorem zx261 : Cond.code yX6_odds cX6_odds 7 (some .long) ∈ zbig := zbigM 841 (by decide +kernel) (by decide +kernel)
theorem zx262 : Cond.methodLink RL 96 yX5_sheet ∈ zbig := zbigM 479 (by decide +kernel) (by decide +kernel)
theorem zx263 : Cond.instanceMethod yX5_sheet ∈ zbig := zbigM 480 (by decide +kernel) (by decide +kernel)
theorem zx264 : Cond.selects yX5_sheet.cls yX5_sheet yX5_sheet ∈ zbig := zbigM 481 (by decide +kernel) (by decide +kernel)
theorem zx265 : Cond.initialized yX5_sheet.cls ∈ zbig := zbigM 50 (by decide +kernel) (by decide +kernel)
theorem zx266 : Cond.code yX5_sheet cX5_sheet 4 (some .int) ∈ zbig := zbigM 482 (by decide +kernel) (by decide +kernel)
theorem zx267 : Cond.methodLink RL 99 yX6_sheet ∈ zbig := zbigM 846 (by decide +kernel) (by decide +kernel)
theorem zx268 : Cond.instanceMethod yX6_sheet ∈ zbig := zbigM 847 (by decide +kernel) (by decide +kernel)
theorem zx269 : Cond.selects yX6_sheet.cls yX6_sheet yX6_sheet ∈ zbig := zbigM 848 (by decide +kernel) (by decide +kernel)
theorem zx270 : Cond.initialized yX6_sheet.cls ∈ zbig := zbigM 55 (by decide +kernel) (by decide +kernel)
theorem zx271 : Cond.code yX6_sheet cX6_sheet 5 (some .int) ∈ zbig := zbigM 849 (by decide +kernel) (by decide +kernel)
theorem zx272 : Cond.methodLink RL 100 yX5_lose ∈ zbig := zbigM 487 (by decide +kernel) (by decide +kernel)
theorem zx273 : Cond.instanceMethod yX5_lose ∈ zbig := zbigM 488 (by decide +kernel) (by decide +kernel)
theorem zx274 : Cond.selects yX5_lose.cls yX5_lose yX5_lose ∈ zbig := zbigM 489 (by decide +kernel) (by decide +kernel)
theorem zx275 : Cond.initialized yX5_lose.cls ∈ zbig := zbigM 50 (by decide +kernel) (by decide +kernel)
theorem zx276 : Cond.code yX5_lose cX5_lose 2 (some .int) ∈ zbig := zbigM 490 (by decide +kernel) (by decide +kernel)
theorem zx277 : Cond.methodLink RL 103 yX6_lose ∈ zbig := zbigM 850 (by decide +kernel) (by decide +kernel)
theorem zx278 : Cond.instanceMethod yX6_lose ∈ zbig := zbigM 851 (by decide +kernel) (by decide +kernel)
theorem zx279 : Cond.selects yX6_lose.cls yX6_lose yX6_lose ∈ zbig := zbigM 852 (by decide +kernel) (by decide +kernel)
theorem zx280 : Cond.initialized yX6_lose.cls ∈ zbig := zbigM 55 (by decide +kernel) (by decide +kernel)
theorem zx281 : Cond.code yX6_lose cX6_lose 3 (some .int) ∈ zbig := zbigM 853 (by decide +kernel) (by decide +kernel)
theorem zx282 : Cond.methodLink RL 104 yX5_put ∈ zbig := zbigM 491 (by decide +kernel) (by decide +kernel)
theorem zx283 : Cond.instanceMethod yX5_put ∈ zbig := zbigM 492 (by decide +kernel) (by decide +kernel)
theorem zx284 : Cond.selects yX5_put.cls yX5_put yX5_put ∈ zbig := zbigM 493 (by decide +kernel) (by decide +kernel)
theorem zx285 : Cond.initialized yX5_put.cls ∈ zbig := zbigM 50 (by decide +kernel) (by decide +kernel)
theorem zx286 : Cond.code yX5_put cX5_put 5 (some .int) ∈ zbig := zbigM 494 (by decide +kernel) (by decide +kernel)
theorem zx287 : Cond.methodLink RL 107 yX6_put ∈ zbig := zbigM 854 (by decide +kernel) (by decide +kernel)
theorem zx288 : Cond.instanceMethod yX6_put ∈ zbig := zbigM 855 (by decide +kernel) (by decide +kernel)
theorem zx289 : Cond.selects yX6_put.cls yX6_put yX6_put ∈ zbig := zbigM 856 (by decide +kernel) (by decide +kernel)
theorem zx290 : Cond.initialized yX6_put.cls ∈ zbig := zbigM 55 (by decide +kernel) (by decide +kernel)
theorem zx291 : Cond.code yX6_put cX6_put 4 (some .int) ∈ zbig := zbigM 857 (by decide +kernel) (by decide +kernel)
theorem zx292 : Cond.methodLink RL 108 yX5_cell ∈ zbig := zbigM 499 (by decide +kernel) (by decide +kernel)
theorem zx293 : Cond.instanceMethod yX5_cell ∈ zbig := zbigM 500 (by decide +kernel) (by decide +kernel)
theorem zx294 : Cond.selects yX5_cell.cls yX5_cell yX5_cell ∈ zbig := zbigM 501 (by decide +kernel) (by decide +kernel)
theorem zx295 : Cond.initialized yX5_cell.cls ∈ zbig := zbigM 50 (by decide +kernel) (by decide +kernel)
theorem zx296 : Cond.code yX5_cell cX5_cell 5 (some .long) ∈ zbig := zbigM 502 (by decide +kernel) (by decide +kernel)
theorem zx297 : Cond.methodLink RL 112 yX6_cell ∈ zbig := zbigM 858 (by decide +kernel) (by decide +kernel)
theorem zx298 : Cond.instanceMethod yX6_cell ∈ zbig := zbigM 859 (by decide +kernel) (by decide +kernel)
theorem zx299 : Cond.selects yX6_cell.cls yX6_cell yX6_cell ∈ zbig := zbigM 860 (by decide +kernel) (by decide +kernel)
theorem zx300 : Cond.initialized yX6_cell.cls ∈ zbig := zbigM 55 (by decide +kernel) (by decide +kernel)
theorem zx301 : Cond.code yX6_cell cX6_cell 4 (some .long) ∈ zbig := zbigM 861 (by decide +kernel) (by decide +kernel)
theorem zx302 : Cond.methodLink RL 113 yX5_copy ∈ zbig := zbigM 503 (by decide +kernel) (by decide +kernel)
theorem zx303 : Cond.instanceMethod yX5_copy ∈ zbig := zbigM 504 (by decide +kernel) (by decide +kernel)
theorem zx304 : Cond.selects yX5_copy.cls yX5_copy yX5_copy ∈ zbig := zbigM 505 (by decide +kernel) (by decide +kernel)
theorem zx305 : Cond.initialized yX5_copy.cls ∈ zbig := zbigM 50 (by decide +kernel) (by decide +kernel)
theorem zx306 : Cond.code yX5_copy cX5_copy 8 (some .int) ∈ zbig := zbigM 506 (by decide +kernel) (by decide +kernel)
theorem zx307 : Cond.methodLink RL 116 yX6_copy ∈ zbig := zbigM 866 (by decide +kernel) (by decide +kernel)
theorem zx308 : Cond.instanceMethod yX6_copy ∈ zbig := zbigM 867 (by decide +kernel) (by decide +kernel)
theorem zx309 : Cond.selects yX6_copy.cls yX6_copy yX6_copy ∈ zbig := zbigM 868 (by decide +kernel) (by decide +kernel)
theorem zx310 : Cond.initialized yX6_copy.cls ∈ zbig := zbigM 55 (by decide +kernel) (by decide +kernel)
theorem zx311 : Cond.code yX6_copy cX6_copy 10 (some .int) ∈ zbig := zbigM 869 (by decide +kernel) (by decide +kernel)
theorem zx312 : Cond.methodLink RL 117 yX5_tell ∈ zbig := zbigM 508 (by decide +kernel) (by decide +kernel)
theorem zx313 : Cond.instanceMethod yX5_tell ∈ zbig := zbigM 509 (by decide +kernel) (by decide +kernel)
theorem zx314 : Cond.selects yX5_tell.cls yX5_tell yX5_tell ∈ zbig := zbigM 510 (by decide +kernel) (by decide +kernel)
theorem zx315 : Cond.initialized yX5_tell.cls ∈ zbig := zbigM 50 (by decide +kernel) (by decide +kernel)
theorem zx316 : Cond.code yX5_tell cX5_tell 2 (some .int) ∈ zbig := zbigM 511 (by decide +kernel) (by decide +kernel)
theorem zx317 : Cond.methodLink RL 120 yX6_tell ∈ zbig := zbigM 870 (by decide +kernel) (by decide +kernel)
theorem zx318 : Cond.instanceMethod yX6_tell ∈ zbig := zbigM 871 (by decide +kernel) (by decide +kernel)
theorem zx319 : Cond.selects yX6_tell.cls yX6_tell yX6_tell ∈ zbig := zbigM 872 (by decide +kernel) (by decide +kernel)
theorem zx320 : Cond.initialized yX6_tell.cls ∈ zbig := zbigM 55 (by decide +kernel) (by decide +kernel)
theorem zx321 : Cond.code yX6_tell cX6_tell 3 (some .int) ∈ zbig := zbigM 873 (by decide +kernel) (by decide +kernel)
theorem zx322 : Cond.methodLink RL 121 yX5_knock ∈ zbig := zbigM 528 (by decide +kernel) (by decide +kernel)
theorem zx323 : Cond.instanceMethod yX5_knock ∈ zbig := zbigM 529 (by decide +kernel) (by decide +kernel)
theorem zx324 : Cond.selects yX5_knock.cls yX5_knock yX5_knock ∈ zbig := zbigM 530 (by decide +kernel) (by decide +kernel)
theorem zx325 : Cond.initialized yX5_knock.cls ∈ zbig := zbigM 50 (by decide +kernel) (by decide +kernel)
theorem zx326 : Cond.code yX5_knock cX5_knock 2 (some .int) ∈ zbig := zbigM 531 (by decide +kernel) (by decide +kernel)
theorem zx327 : Cond.methodLink RL 124 yX6_knock ∈ zbig := zbigM 878 (by decide +kernel) (by decide +kernel)
theorem zx328 : Cond.instanceMethod yX6_knock ∈ zbig := zbigM 879 (by decide +kernel) (by decide +kernel)
theorem zx329 : Cond.selects yX6_knock.cls yX6_knock yX6_knock ∈ zbig := zbigM 880 (by decide +kernel) (by decide +kernel)
theorem zx330 : Cond.initialized yX6_knock.cls ∈ zbig := zbigM 55 (by decide +kernel) (by decide +kernel)
theorem zx331 : Cond.code yX6_knock cX6_knock 2 (some .int) ∈ zbig := zbigM 881 (by decide +kernel) (by decide +kernel)
theorem zx332 : Cond.methodLink RL 125 yX5_as ∈ zbig := zbigM 532 (by decide +kernel) (by decide +kernel)
theorem zx333 : Cond.instanceMethod yX5_as ∈ zbig := zbigM 533 (by decide +kernel) (by decide +kernel)
theorem zx334 : Cond.selects yX5_as.cls yX5_as yX5_as ∈ zbig := zbigM 534 (by decide +kernel) (by decide +kernel)
theorem zx335 : Cond.initialized yX5_as.cls ∈ zbig := zbigM 50 (by decide +kernel) (by decide +kernel)
theorem zx336 : Cond.code yX5_as cX5_as 3 (some .int) ∈ zbig := zbigM 535 (by decide +kernel) (by decide +kernel)
theorem zx337 : Cond.methodLink RL 128 yX6_as ∈ zbig := zbigM 882 (by decide +kernel) (by decide +kernel)
theorem zx338 : Cond.instanceMethod yX6_as ∈ zbig := zbigM 883 (by decide +kernel) (by decide +kernel)
theorem zx339 : Cond.selects yX6_as.cls yX6_as yX6_as ∈ zbig := zbigM 884 (by decide +kernel) (by decide +kernel)
theorem zx340 : Cond.initialized yX6_as.cls ∈ zbig := zbigM 55 (by decide +kernel) (by decide +kernel)
theorem zx341 : Cond.code yX6_as cX6_as 3 (some .int) ∈ zbig := zbigM 885 (by decide +kernel) (by decide +kernel)
theorem zx342 : Cond.methodLink RL 129 yX5_trace ∈ zbig := zbigM 536 (by decide +kernel) (by decide +kernel)
theorem zx343 : Cond.instanceMethod yX5_trace ∈ zbig := zbigM 537 (by decide +kernel) (by decide +kernel)
theorem zx344 : Cond.selects yX5_trace.cls yX5_trace yX5_trace ∈ zbig := zbigM 538 (by decide +kernel) (by decide +kernel)
theorem zx345 : Cond.initialized yX5_trace.cls ∈ zbig := zbigM 50 (by decide +kernel) (by decide +kernel)
theorem zx346 : Cond.code yX5_trace cX5_trace 1 (some .int) ∈ zbig := zbigM 539 (by decide +kernel) (by decide +kernel)
theorem zx347 : Cond.methodLink RL 132 yX6_trace ∈ zbig := zbigM 886 (by decide +kernel) (by decide +kernel)
theorem zx348 : Cond.instanceMethod yX6_trace ∈ zbig := zbigM 887 (by decide +kernel) (by decide +kernel)
theorem zx349 : Cond.selects yX6_trace.cls yX6_trace yX6_trace ∈ zbig := zbigM 888 (by decide +kernel) (by decide +kernel)
theorem zx350 : Cond.initialized yX6_trace.cls ∈ zbig := zbigM 55 (by decide +kernel) (by decide +kernel)
theorem zx351 : Cond.code yX6_trace cX6_trace 1 (some .int) ∈ zbig := zbigM 889 (by decide +kernel) (by decide +kernel)
theorem zx352 : Cond.methodLink RL 133 yX5_fault ∈ zbig := zbigM 540 (by decide +kernel) (by decide +kernel)
theorem zx353 : Cond.instanceMethod yX5_fault ∈ zbig := zbigM 541 (by decide +kernel) (by decide +kernel)
theorem zx354 : Cond.selects yX5_fault.cls yX5_fault yX5_fault ∈ zbig := zbigM 542 (by decide +kernel) (by decide +kernel)
theorem zx355 : Cond.initialized yX5_fault.cls ∈ zbig := zbigM 50 (by decide +kernel) (by decide +kernel)
theorem zx356 : Cond.code yX5_fault cX5_fault 1 (some .int) ∈ zbig := zbigM 543 (by decide +kernel) (by decide +kernel)
theorem zx357 : Cond.methodLink RL 136 yX6_fault ∈ zbig := zbigM 890 (by decide +kernel) (by decide +kernel)
theorem zx358 : Cond.instanceMethod yX6_fault ∈ zbig := zbigM 891 (by decide +kernel) (by decide +kernel)
theorem zx359 : Cond.selects yX6_fault.cls yX6_fault yX6_fault ∈ zbig := zbigM 892 (by decide +kernel) (by decide +kernel)
theorem zx360 : Cond.initialized yX6_fault.cls ∈ zbig := zbigM 55 (by decide +kernel) (by decide +kernel)
theorem zx361 : Cond.code yX6_fault cX6_fault 1 (some .int) ∈ zbig := zbigM 893 (by decide +kernel) (by decide +kernel)
theorem zx362 : Cond.methodLink RL 137 yX5_many ∈ zbig := zbigM 544 (by decide +kernel) (by decide +kernel)
theorem zx363 : Cond.instanceMethod yX5_many ∈ zbig := zbigM 545 (by decide +kernel) (by decide +kernel)
theorem zx364 : Cond.selects yX5_many.cls yX5_many yX5_many ∈ zbig := zbigM 546 (by decide +kernel) (by decide +kernel)
theorem zx365 : Cond.initialized yX5_many.cls ∈ zbig := zbigM 50 (by decide +kernel) (by decide +kernel)
theorem zx366 : Cond.code yX5_many cX5_many 2 (some .int) ∈ zbig := zbigM 547 (by decide +kernel) (by decide +kernel)
theorem zx367 : Cond.methodLink RL 140 yX6_many ∈ zbig := zbigM 894 (by decide +kernel) (by decide +kernel)
theorem zx368 : Cond.instanceMethod yX6_many ∈ zbig := zbigM 895 (by decide +kernel) (by decide +kernel)
theorem zx369 : Cond.selects yX6_many.cls yX6_many yX6_many ∈ zbig := zbigM 896 (by decide +kernel) (by decide +kernel)
theorem zx370 : Cond.initialized yX6_many.cls ∈ zbig := zbigM 55 (by decide +kernel) (by decide +kernel)
theorem zx371 : Cond.code yX6_many cX6_many 2 (some .int) ∈ zbig := zbigM 897 (by decide +kernel) (by decide +kernel)
set_option maxRecDepth 20000 in
theorem law_0 {p : Program} {l : Launch} {e : Env} {s : State} {m : MethodId} {below : List Frame} {meth : Method} {c : Code} {D : va_G} {cI cO cA : ClassId} {a b : Nat → Nat} {bb L : Nat} {xs : Nat → Int32} {σ τ : zSt} {n : Nat} (C : zCL p s m meth c D cI cO cA a b bb L xs) (hn : n + 6 ≤ L) (hR : zRel σ τ) (back : ∀ {σ2 τ2 : zSt}, zRel σ2 τ2 → zLJ p l e s m below meth c D cI cO cA a b bb σ2 τ2 1090 (nI n) []) : zLJ p l e s m below meth c D cI cO cA a b bb σ τ 168 (nI n) [] := by
  obtain ⟨r, σ2, τ2, h1, h2, h3⟩ := sim_vine (xs (n + 1)) (xs (n + 2)) (xs (n + 3)) (xs (n + 4)) σ τ hR
  refine j_aload C dL_law_168 rfl ?_
  refine j_arg (k := 1) C (by omega) rfl dL_law_169 dL_law_170 dL_law_171 dL_law_172 dL_law_173 ?_
  refine j_arg (k := 2) C (by omega) rfl dL_law_174 dL_law_175 dL_law_176 dL_law_177 dL_law_178 ?_
  refine j_arg (k := 3) C (by omega) rfl dL_law_179 dL_law_180 dL_law_181 dL_law_182 dL_law_183 ?_
  refine j_arg (k := 4) C (by omega) rfl dL_law_184 dL_law_185 dL_law_186 dL_law_187 dL_law_188 ?_
  refine j_callXi (n := 4) C [.int (xs (n + 1)), .int (xs (n + 2)), .int (xs (n + 3)), .int (xs (n + 4))] [] (c_X5_vine C.2.2.2.1 h1) rfl ⟨zx72, zx73, zx74⟩ ⟨zx75, zx76, by decide +kernel⟩ ⟨rfl, rfl, by decide, by decide⟩ rfl rfl (Nat.le_of_ble_eq_true rfl) dL_law_189 ?_
  refine j_aload C dL_law_192 rfl ?_
  refine j_arg (k := 1) C (by omega) rfl dL_law_193 dL_law_194 dL_law_195 dL_law_196 dL_law_197 ?_
  refine j_arg (k := 2) C (by omega) rfl dL_law_198 dL_law_199 dL_law_200 dL_law_201 dL_law_202 ?_
  refine j_arg (k := 3) C (by omega) rfl dL_law_203 dL_law_204 dL_law_205 dL_law_206 dL_law_207 ?_
  refine j_arg (k := 4) C (by omega) rfl dL_law_208 dL_law_209 dL_law_210 dL_law_211 dL_law_212 ?_
  refine j_callMi (n := 4) C [.int (xs (n + 1)), .int (xs (n + 2)), .int (xs (n + 3)), .int (xs (n + 4))] [.int r] (c_X6_vine C.2.2.2.2.1 h2) rfl ⟨zx77, zx78, zx79⟩ ⟨zx80, zx81, by decide +kernel⟩ ⟨rfl, rfl, by decide, by decide⟩ rfl rfl (Nat.le_of_ble_eq_true rfl) dL_law_213 ?_
  refine j_eq (tgt := 1090) C dL_law_216 (by decide) ?_
  exact back h3
set_option maxRecDepth 20000 in
theorem law_1 {p : Program} {l : Launch} {e : Env} {s : State} {m : MethodId} {below : List Frame} {meth : Method} {c : Code} {D : va_G} {cI cO cA : ClassId} {a b : Nat → Nat} {bb L : Nat} {xs : Nat → Int32} {σ τ : zSt} {n : Nat} (C : zCL p s m meth c D cI cO cA a b bb L xs) (hn : n + 6 ≤ L) (hR : zRel σ τ) (back : ∀ {σ2 τ2 : zSt}, zRel σ2 τ2 → zLJ p l e s m below meth c D cI cO cA a b bb σ2 τ2 1090 (nI n) []) : zLJ p l e s m below meth c D cI cO cA a b bb σ τ 221 (nI n) [] := by
  obtain ⟨r, σ2, τ2, h1, h2, h3⟩ := sim_ofPost (xs (n + 1)) (xs (n + 2)) σ τ hR
  refine j_aload C dL_law_221 rfl ?_
  refine j_arg (k := 1) C (by omega) rfl dL_law_222 dL_law_223 dL_law_224 dL_law_225 dL_law_226 ?_
  refine j_arg (k := 2) C (by omega) rfl dL_law_227 dL_law_228 dL_law_229 dL_law_230 dL_law_231 ?_
  refine j_callXi (n := 2) C [.int (xs (n + 1)), .int (xs (n + 2))] [] (c_X5_ofPost C.2.2.2.1 h1) rfl ⟨zx82, zx83, zx84⟩ ⟨zx85, zx86, by decide +kernel⟩ ⟨rfl, rfl, by decide, by decide⟩ rfl rfl (Nat.le_of_ble_eq_true rfl) dL_law_232 ?_
  refine j_aload C dL_law_235 rfl ?_
  refine j_arg (k := 1) C (by omega) rfl dL_law_236 dL_law_237 dL_law_238 dL_law_239 dL_law_240 ?_
  refine j_arg (k := 2) C (by omega) rfl dL_law_241 dL_law_242 dL_law_243 dL_law_244 dL_law_245 ?_
  refine j_callMi (n := 2) C [.int (xs (n + 1)), .int (xs (n + 2))] [.int r] (c_X6_ofPost C.2.2.2.2.1 h2) rfl ⟨zx87, zx88, zx89⟩ ⟨zx90, zx91, by decide +kernel⟩ ⟨rfl, rfl, by decide, by decide⟩ rfl rfl (Nat.le_of_ble_eq_true rfl) dL_law_246 ?_
  refine j_eq (tgt := 1090) C dL_law_249 (by decide) ?_
  exact back h3
set_option maxRecDepth 20000 in
theorem law_2 {p : Program} {l : Launch} {e : Env} {s : State} {m : MethodId} {below : List Frame} {meth : Method} {c : Code} {D : va_G} {cI cO cA : ClassId} {a b : Nat → Nat} {bb L : Nat} {xs : Nat → Int32} {σ τ : zSt} {n : Nat} (C : zCL p s m meth c D cI cO cA a b bb L xs) (hn : n + 6 ≤ L) (hR : zRel σ τ) (back : ∀ {σ2 τ2 : zSt}, zRel σ2 τ2 → zLJ p l e s m below meth c D cI cO cA a b bb σ2 τ2 1090 (nI n) []) : zLJ p l e s m below meth c D cI cO cA a b bb σ τ 254 (nI n) [] := by
  obtain ⟨r, σ2, τ2, h1, h2, h3⟩ := sim_load (xs (n + 1)) (xs (n + 2)) σ τ hR
  refine j_aload C dL_law_254 rfl ?_
  refine j_arg (k := 1) C (by omega) rfl dL_law_255 dL_law_256 dL_law_257 dL_law_258 dL_law_259 ?_
  refine j_arg (k := 2) C (by omega) rfl dL_law_260 dL_law_261 dL_law_262 dL_law_263 dL_law_264 ?_
  refine j_callXi (n := 2) C [.int (xs (n + 1)), .int (xs (n + 2))] [] (c_X5_load C.2.2.2.1 h1) rfl ⟨zx92, zx93, zx94⟩ ⟨zx95, zx96, by decide +kernel⟩ ⟨rfl, rfl, by decide, by decide⟩ rfl rfl (Nat.le_of_ble_eq_true rfl) dL_law_265 ?_
  refine j_aload C dL_law_268 rfl ?_
  refine j_arg (k := 1) C (by omega) rfl dL_law_269 dL_law_270 dL_law_271 dL_law_272 dL_law_273 ?_
  refine j_arg (k := 2) C (by omega) rfl dL_law_274 dL_law_275 dL_law_276 dL_law_277 dL_law_278 ?_
  refine j_callMi (n := 2) C [.int (xs (n + 1)), .int (xs (n + 2))] [.int r] (c_X6_load C.2.2.2.2.1 h2) rfl ⟨zx97, zx98, zx99⟩ ⟨zx100, zx101, by decide +kernel⟩ ⟨rfl, rfl, by decide, by decide⟩ rfl rfl (Nat.le_of_ble_eq_true rfl) dL_law_279 ?_
  refine j_eq (tgt := 1090) C dL_law_282 (by decide) ?_
  exact back h3
set_option maxRecDepth 20000 in
theorem law_3 {p : Program} {l : Launch} {e : Env} {s : State} {m : MethodId} {below : List Frame} {meth : Method} {c : Code} {D : va_G} {cI cO cA : ClassId} {a b : Nat → Nat} {bb L : Nat} {xs : Nat → Int32} {σ τ : zSt} {n : Nat} (C : zCL p s m meth c D cI cO cA a b bb L xs) (hn : n + 6 ≤ L) (hR : zRel σ τ) (back : ∀ {σ2 τ2 : zSt}, zRel σ2 τ2 → zLJ p l e s m below meth c D cI cO cA a b bb σ2 τ2 1090 (nI n) []) : zLJ p l e s m below meth c D cI cO cA a b bb σ τ 287 (nI n) [] := by
  obtain ⟨r, σ2, τ2, h1, h2, h3⟩ := sim_row (xs (n + 1)) σ τ hR
  refine j_aload C dL_law_287 rfl ?_
  refine j_arg (k := 1) C (by omega) rfl dL_law_288 dL_law_289 dL_law_290 dL_law_291 dL_law_292 ?_
  refine j_callXi (n := 1) C [.int (xs (n + 1))] [] (c_X5_row C.2.2.2.1 h1) rfl ⟨zx102, zx103, zx104⟩ ⟨zx105, zx106, by decide +kernel⟩ ⟨rfl, rfl, by decide, by decide⟩ rfl rfl (Nat.le_of_ble_eq_true rfl) dL_law_293 ?_
  refine j_aload C dL_law_296 rfl ?_
  refine j_arg (k := 1) C (by omega) rfl dL_law_297 dL_law_298 dL_law_299 dL_law_300 dL_law_301 ?_
  refine j_callMi (n := 1) C [.int (xs (n + 1))] [.int r] (c_X6_row C.2.2.2.2.1 h2) rfl ⟨zx107, zx108, zx109⟩ ⟨zx110, zx111, by decide +kernel⟩ ⟨rfl, rfl, by decide, by decide⟩ rfl rfl (Nat.le_of_ble_eq_true rfl) dL_law_302 ?_
  refine j_eq (tgt := 1090) C dL_law_305 (by decide) ?_
  exact back h3
set_option maxRecDepth 20000 in
theorem law_4 {p : Program} {l : Launch} {e : Env} {s : State} {m : MethodId} {below : List Frame} {meth : Method} {c : Code} {D : va_G} {cI cO cA : ClassId} {a b : Nat → Nat} {bb L : Nat} {xs : Nat → Int32} {σ τ : zSt} {n : Nat} (C : zCL p s m meth c D cI cO cA a b bb L xs) (hn : n + 6 ≤ L) (hR : zRel σ τ) (back : ∀ {σ2 τ2 : zSt}, zRel σ2 τ2 → zLJ p l e s m below meth c D cI cO cA a b bb σ2 τ2 1090 (nI n) []) : zLJ p l e s m below meth c D cI cO cA a b bb σ τ 310 (nI n) [] := by
  obtain ⟨r, σ2, τ2, h1, h2, h3⟩ := sim_graft (xs (n + 1)) (xs (n + 2)) σ τ hR
  refine j_aload C dL_law_310 rfl ?_
  refine j_arg (k := 1) C (by omega) rfl dL_law_311 dL_law_312 dL_law_313 dL_law_314 dL_law_315 ?_
  refine j_arg (k := 2) C (by omega) rfl dL_law_316 dL_law_317 dL_law_318 dL_law_319 dL_law_320 ?_
  refine j_callXi (n := 2) C [.int (xs (n + 1)), .int (xs (n + 2))] [] (c_X5_graft C.2.2.2.1 h1) rfl ⟨zx112, zx113, zx114⟩ ⟨zx115, zx116, by decide +kernel⟩ ⟨rfl, rfl, by decide, by decide⟩ rfl rfl (Nat.le_of_ble_eq_true rfl) dL_law_321 ?_
  refine j_aload C dL_law_324 rfl ?_
  refine j_arg (k := 1) C (by omega) rfl dL_law_325 dL_law_326 dL_law_327 dL_law_328 dL_law_329 ?_
  refine j_arg (k := 2) C (by omega) rfl dL_law_330 dL_law_331 dL_law_332 dL_law_333 dL_law_334 ?_
  refine j_callMi (n := 2) C [.int (xs (n + 1)), .int (xs (n + 2))] [.int r] (c_X6_graft C.2.2.2.2.1 h2) rfl ⟨zx117, zx118, zx119⟩ ⟨zx120, zx121, by decide +kernel⟩ ⟨rfl, rfl, by decide, by decide⟩ rfl rfl (Nat.le_of_ble_eq_true rfl) dL_law_335 ?_
  refine j_eq (tgt := 1090) C dL_law_338 (by decide) ?_
  exact back h3
set_option maxRecDepth 20000 in
theorem law_5 {p : Program} {l : Launch} {e : Env} {s : State} {m : MethodId} {below : List Frame} {meth : Method} {c : Code} {D : va_G} {cI cO cA : ClassId} {a b : Nat → Nat} {bb L : Nat} {xs : Nat → Int32} {σ τ : zSt} {n : Nat} (C : zCL p s m meth c D cI cO cA a b bb L xs) (hn : n + 6 ≤ L) (hR : zRel σ τ) (back : ∀ {σ2 τ2 : zSt}, zRel σ2 τ2 → zLJ p l e s m below meth c D cI cO cA a b bb σ2 τ2 1090 (nI n) []) : zLJ p l e s m below meth c D cI cO cA a b bb σ τ 343 (nI n) [] := by
  obtain ⟨r, σ2, τ2, h1, h2, h3⟩ := sim_day (xs (n + 1)) (xs (n + 2)) (xs (n + 3)) (xs (n + 4)) (xs (n + 5)) σ τ hR
  refine j_aload C dL_law_343 rfl ?_
  refine j_arg (k := 1) C (by omega) rfl dL_law_344 dL_law_345 dL_law_346 dL_law_347 dL_law_348 ?_
  refine j_arg (k := 2) C (by omega) rfl dL_law_349 dL_law_350 dL_law_351 dL_law_352 dL_law_353 ?_
  refine j_arg (k := 3) C (by omega) rfl dL_law_354 dL_law_355 dL_law_356 dL_law_357 dL_law_358 ?_
  refine j_arg (k := 4) C (by omega) rfl dL_law_359 dL_law_360 dL_law_361 dL_law_362 dL_law_363 ?_
  refine j_arg (k := 5) C (by omega) rfl dL_law_364 dL_law_365 dL_law_366 dL_law_367 dL_law_368 ?_
  refine j_callXi (n := 5) C [.int (xs (n + 1)), .int (xs (n + 2)), .int (xs (n + 3)), .int (xs (n + 4)), .int (xs (n + 5))] [] (c_X5_day C.2.2.2.1 h1) rfl ⟨zx122, zx123, zx124⟩ ⟨zx125, zx126, by decide +kernel⟩ ⟨rfl, rfl, by decide, by decide⟩ rfl rfl (Nat.le_of_ble_eq_true rfl) dL_law_369 ?_
  refine j_aload C dL_law_372 rfl ?_
  refine j_arg (k := 1) C (by omega) rfl dL_law_373 dL_law_374 dL_law_375 dL_law_376 dL_law_377 ?_
  refine j_arg (k := 2) C (by omega) rfl dL_law_378 dL_law_379 dL_law_380 dL_law_381 dL_law_382 ?_
  refine j_arg (k := 3) C (by omega) rfl dL_law_383 dL_law_384 dL_law_385 dL_law_386 dL_law_387 ?_
  refine j_arg (k := 4) C (by omega) rfl dL_law_388 dL_law_389 dL_law_390 dL_law_391 dL_law_392 ?_
  refine j_arg (k := 5) C (by omega) rfl dL_law_393 dL_law_394 dL_law_395 dL_law_396 dL_law_397 ?_
  refine j_callMi (n := 5) C [.int (xs (n + 1)), .int (xs (n + 2)), .int (xs (n + 3)), .int (xs (n + 4)), .int (xs (n + 5))] [.int r] (c_X6_day C.2.2.2.2.1 h2) rfl ⟨zx127, zx128, zx129⟩ ⟨zx130, zx131, by decide +kernel⟩ ⟨rfl, rfl, by decide, by decide⟩ rfl rfl (Nat.le_of_ble_eq_true rfl) dL_law_398 ?_
  refine j_eq (tgt := 1090) C dL_law_401 (by decide) ?_
  exact back h3
set_option maxRecDepth 20000 in
theorem law_6 {p : Program} {l : Launch} {e : Env} {s : State} {m : MethodId} {below : List Frame} {meth : Method} {c : Code} {D : va_G} {cI cO cA : ClassId} {a b : Nat → Nat} {bb L : Nat} {xs : Nat → Int32} {σ τ : zSt} {n : Nat} (C : zCL p s m meth c D cI cO cA a b bb L xs) (hn : n + 6 ≤ L) (hR : zRel σ τ) (back : ∀ {σ2 τ2 : zSt}, zRel σ2 τ2 → zLJ p l e s m below meth c D cI cO cA a b bb σ2 τ2 1090 (nI n) []) : zLJ p l e s m below meth c D cI cO cA a b bb σ τ 406 (nI n) [] := by
  obtain ⟨r, σ2, τ2, h1, h2, h3⟩ := sim_far (xs (n + 1)) (xs (n + 2)) σ τ hR
  refine j_aload C dL_law_406 rfl ?_
  refine j_arg (k := 1) C (by omega) rfl dL_law_407 dL_law_408 dL_law_409 dL_law_410 dL_law_411 ?_
  refine j_arg (k := 2) C (by omega) rfl dL_law_412 dL_law_413 dL_law_414 dL_law_415 dL_law_416 ?_
  refine j_callXi (n := 2) C [.int (xs (n + 1)), .int (xs (n + 2))] [] (c_X5_far C.2.2.2.1 h1) rfl ⟨zx132, zx133, zx134⟩ ⟨zx135, zx136, by decide +kernel⟩ ⟨rfl, rfl, by decide, by decide⟩ rfl rfl (Nat.le_of_ble_eq_true rfl) dL_law_417 ?_
  refine j_aload C dL_law_420 rfl ?_
  refine j_arg (k := 1) C (by omega) rfl dL_law_421 dL_law_422 dL_law_423 dL_law_424 dL_law_425 ?_
  refine j_arg (k := 2) C (by omega) rfl dL_law_426 dL_law_427 dL_law_428 dL_law_429 dL_law_430 ?_
  refine j_callMi (n := 2) C [.int (xs (n + 1)), .int (xs (n + 2))] [.int r] (c_X6_far C.2.2.2.2.1 h2) rfl ⟨zx137, zx138, zx139⟩ ⟨zx140, zx141, by decide +kernel⟩ ⟨rfl, rfl, by decide, by decide⟩ rfl rfl (Nat.le_of_ble_eq_true rfl) dL_law_431 ?_
  refine j_eq (tgt := 1090) C dL_law_434 (by decide) ?_
  exact back h3
set_option maxRecDepth 20000 in
theorem law_7 {p : Program} {l : Launch} {e : Env} {s : State} {m : MethodId} {below : List Frame} {meth : Method} {c : Code} {D : va_G} {cI cO cA : ClassId} {a b : Nat → Nat} {bb L : Nat} {xs : Nat → Int32} {σ τ : zSt} {n : Nat} (C : zCL p s m meth c D cI cO cA a b bb L xs) (hn : n + 6 ≤ L) (hR : zRel σ τ) (back : ∀ {σ2 τ2 : zSt}, zRel σ2 τ2 → zLJ p l e s m below meth c D cI cO cA a b bb σ2 τ2 1090 (nI n) []) : zLJ p l e s m below meth c D cI cO cA a b bb σ τ 439 (nI n) [] := by
  obtain ⟨r, σ2, τ2, h1, h2, h3⟩ := sim_way (xs (n + 1)) (xs (n + 2)) (xs (n + 3)) σ τ hR
  refine j_aload C dL_law_439 rfl ?_
  refine j_arg (k := 1) C (by omega) rfl dL_law_440 dL_law_441 dL_law_442 dL_law_443 dL_law_444 ?_
  refine j_arg (k := 2) C (by omega) rfl dL_law_445 dL_law_446 dL_law_447 dL_law_448 dL_law_449 ?_
  refine j_arg (k := 3) C (by omega) rfl dL_law_450 dL_law_451 dL_law_452 dL_law_453 dL_law_454 ?_
  refine j_callXi (n := 3) C [.int (xs (n + 1)), .int (xs (n + 2)), .int (xs (n + 3))] [] (c_X5_way C.2.2.2.1 h1) rfl ⟨zx142, zx143, zx144⟩ ⟨zx145, zx146, by decide +kernel⟩ ⟨rfl, rfl, by decide, by decide⟩ rfl rfl (Nat.le_of_ble_eq_true rfl) dL_law_455 ?_
  refine j_aload C dL_law_458 rfl ?_
  refine j_arg (k := 1) C (by omega) rfl dL_law_459 dL_law_460 dL_law_461 dL_law_462 dL_law_463 ?_
  refine j_arg (k := 2) C (by omega) rfl dL_law_464 dL_law_465 dL_law_466 dL_law_467 dL_law_468 ?_
  refine j_arg (k := 3) C (by omega) rfl dL_law_469 dL_law_470 dL_law_471 dL_law_472 dL_law_473 ?_
  refine j_callMi (n := 3) C [.int (xs (n + 1)), .int (xs (n + 2)), .int (xs (n + 3))] [.int r] (c_X6_way C.2.2.2.2.1 h2) rfl ⟨zx147, zx148, zx149⟩ ⟨zx150, zx151, by decide +kernel⟩ ⟨rfl, rfl, by decide, by decide⟩ rfl rfl (Nat.le_of_ble_eq_true rfl) dL_law_474 ?_
  refine j_eq (tgt := 1090) C dL_law_477 (by decide) ?_
  exact back h3
set_option maxRecDepth 20000 in
theorem law_8 {p : Program} {l : Launch} {e : Env} {s : State} {m : MethodId} {below : List Frame} {meth : Method} {c : Code} {D : va_G} {cI cO cA : ClassId} {a b : Nat → Nat} {bb L : Nat} {xs : Nat → Int32} {σ τ : zSt} {n : Nat} (C : zCL p s m meth c D cI cO cA a b bb L xs) (hn : n + 6 ≤ L) (hR : zRel σ τ) (back : ∀ {σ2 τ2 : zSt}, zRel σ2 τ2 → zLJ p l e s m below meth c D cI cO cA a b bb σ2 τ2 1090 (nI n) []) : zLJ p l e s m below meth c D cI cO cA a b bb σ τ 482 (nI n) [] := by
  obtain ⟨r, σ2, τ2, h1, h2, h3⟩ := sim_middle (xs (n + 1)) σ τ hR
  refine j_aload C dL_law_482 rfl ?_
  refine j_arg (k := 1) C (by omega) rfl dL_law_483 dL_law_484 dL_law_485 dL_law_486 dL_law_487 ?_
  refine j_callXi (n := 1) C [.int (xs (n + 1))] [] (c_X5_middle C.2.2.2.1 h1) rfl ⟨zx152, zx153, zx154⟩ ⟨zx155, zx156, by decide +kernel⟩ ⟨rfl, rfl, by decide, by decide⟩ rfl rfl (Nat.le_of_ble_eq_true rfl) dL_law_488 ?_
  refine j_aload C dL_law_491 rfl ?_
  refine j_arg (k := 1) C (by omega) rfl dL_law_492 dL_law_493 dL_law_494 dL_law_495 dL_law_496 ?_
  refine j_callMi (n := 1) C [.int (xs (n + 1))] [.int r] (c_X6_middle C.2.2.2.2.1 h2) rfl ⟨zx157, zx158, zx159⟩ ⟨zx160, zx161, by decide +kernel⟩ ⟨rfl, rfl, by decide, by decide⟩ rfl rfl (Nat.le_of_ble_eq_true rfl) dL_law_497 ?_
  refine j_eq (tgt := 1090) C dL_law_500 (by decide) ?_
  exact back h3
set_option maxRecDepth 20000 in
theorem law_9 {p : Program} {l : Launch} {e : Env} {s : State} {m : MethodId} {below : List Frame} {meth : Method} {c : Code} {D : va_G} {cI cO cA : ClassId} {a b : Nat → Nat} {bb L : Nat} {xs : Nat → Int32} {σ τ : zSt} {n : Nat} (C : zCL p s m meth c D cI cO cA a b bb L xs) (hn : n + 6 ≤ L) (hR : zRel σ τ) (back : ∀ {σ2 τ2 : zSt}, zRel σ2 τ2 → zLJ p l e s m below meth c D cI cO cA a b bb σ2 τ2 1090 (nI n) []) : zLJ p l e s m below meth c D cI cO cA a b bb σ τ 505 (nI n) [] := by
  obtain ⟨r, σ2, τ2, h1, h2, h3⟩ := sim_number σ τ hR
  refine j_aload C dL_law_505 rfl ?_
  refine j_callXi (n := 0) C [] [] (c_X5_number C.2.2.2.1 h1) rfl ⟨zx162, zx163, zx164⟩ ⟨zx165, zx166, by decide +kernel⟩ ⟨rfl, rfl, by decide, by decide⟩ rfl rfl (Nat.le_of_ble_eq_true rfl) dL_law_506 ?_
  refine j_aload C dL_law_509 rfl ?_
  refine j_callMi (n := 0) C [] [.int r] (c_X6_number C.2.2.2.2.1 h2) rfl ⟨zx167, zx168, zx169⟩ ⟨zx170, zx171, by decide +kernel⟩ ⟨rfl, rfl, by decide, by decide⟩ rfl rfl (Nat.le_of_ble_eq_true rfl) dL_law_510 ?_
  refine j_eq (tgt := 1090) C dL_law_513 (by decide) ?_
  exact back h3
set_option maxRecDepth 20000 in
theorem law_10 {p : Program} {l : Launch} {e : Env} {s : State} {m : MethodId} {below : List Frame} {meth : Method} {c : Code} {D : va_G} {cI cO cA : ClassId} {a b : Nat → Nat} {bb L : Nat} {xs : Nat → Int32} {σ τ : zSt} {n : Nat} (C : zCL p s m meth c D cI cO cA a b bb L xs) (hn : n + 6 ≤ L) (hR : zRel σ τ) (back : ∀ {σ2 τ2 : zSt}, zRel σ2 τ2 → zLJ p l e s m below meth c D cI cO cA a b bb σ2 τ2 1090 (nI n) []) : zLJ p l e s m below meth c D cI cO cA a b bb σ τ 518 (nI n) [] := by
  obtain ⟨r, σ2, τ2, h1, h2, h3⟩ := sim_alike σ τ hR
  refine j_aload C dL_law_518 rfl ?_
  refine j_callXi (n := 0) C [] [] (c_X5_alike C.2.2.2.1 h1) rfl ⟨zx172, zx173, zx174⟩ ⟨zx175, zx176, by decide +kernel⟩ ⟨rfl, rfl, by decide, by decide⟩ rfl rfl (Nat.le_of_ble_eq_true rfl) dL_law_519 ?_
  refine j_aload C dL_law_522 rfl ?_
  refine j_callMi (n := 0) C [] [.int r] (c_X6_alike C.2.2.2.2.1 h2) rfl ⟨zx177, zx178, zx179⟩ ⟨zx180, zx181, by decide +kernel⟩ ⟨rfl, rfl, by decide, by decide⟩ rfl rfl (Nat.le_of_ble_eq_true rfl) dL_law_523 ?_
  refine j_eq (tgt := 1090) C dL_law_526 (by decide) ?_
  exact back h3
set_option maxRecDepth 20000 in
theorem law_11 {p : Program} {l : Launch} {e : Env} {s : State} {m : MethodId} {below : List Frame} {meth : Method} {c : Code} {D : va_G} {cI cO cA : ClassId} {a b : Nat → Nat} {bb L : Nat} {xs : Nat → Int32} {σ τ : zSt} {n : Nat} (C : zCL p s m meth c D cI cO cA a b bb L xs) (hn : n + 6 ≤ L) (hR : zRel σ τ) (back : ∀ {σ2 τ2 : zSt}, zRel σ2 τ2 → zLJ p l e s m below meth c D cI cO cA a b bb σ2 τ2 1090 (nI n) []) : zLJ p l e s m below meth c D cI cO cA a b bb σ τ 531 (nI n) [] := by
  obtain ⟨r, σ2, τ2, h1, h2, h3⟩ := sim_pairs σ τ hR
  refine j_aload C dL_law_531 rfl ?_
  refine j_callXi (n := 0) C [] [] (c_X5_pairs C.2.2.2.1 h1) rfl ⟨zx182, zx183, zx184⟩ ⟨zx185, zx186, by decide +kernel⟩ ⟨rfl, rfl, by decide, by decide⟩ rfl rfl (Nat.le_of_ble_eq_true rfl) dL_law_532 ?_
  refine j_aload C dL_law_535 rfl ?_
  refine j_callMi (n := 0) C [] [.int r] (c_X6_pairs C.2.2.2.2.1 h2) rfl ⟨zx187, zx188, zx189⟩ ⟨zx190, zx191, by decide +kernel⟩ ⟨rfl, rfl, by decide, by decide⟩ rfl rfl (Nat.le_of_ble_eq_true rfl) dL_law_536 ?_
  refine j_eq (tgt := 1090) C dL_law_539 (by decide) ?_
  exact back h3
set_option maxRecDepth 20000 in
theorem law_12 {p : Program} {l : Launch} {e : Env} {s : State} {m : MethodId} {below : List Frame} {meth : Method} {c : Code} {D : va_G} {cI cO cA : ClassId} {a b : Nat → Nat} {bb L : Nat} {xs : Nat → Int32} {σ τ : zSt} {n : Nat} (C : zCL p s m meth c D cI cO cA a b bb L xs) (hn : n + 6 ≤ L) (hR : zRel σ τ) (back : ∀ {σ2 τ2 : zSt}, zRel σ2 τ2 → zLJ p l e s m below meth c D cI cO cA a b bb σ2 τ2 1090 (nI n) []) : zLJ p l e s m below meth c D cI cO cA a b bb σ τ 544 (nI n) [] := by
  obtain ⟨r, σ2, τ2, h1, h2, h3⟩ := sim_loners (xs (n + 1)) σ τ hR
  refine j_aload C dL_law_544 rfl ?_
  refine j_arg (k := 1) C (by omega) rfl dL_law_545 dL_law_546 dL_law_547 dL_law_548 dL_law_549 ?_
  refine j_callXi (n := 1) C [.int (xs (n + 1))] [] (c_X5_loners C.2.2.2.1 h1) rfl ⟨zx192, zx193, zx194⟩ ⟨zx195, zx196, by decide +kernel⟩ ⟨rfl, rfl, by decide, by decide⟩ rfl rfl (Nat.le_of_ble_eq_true rfl) dL_law_550 ?_
  refine j_aload C dL_law_553 rfl ?_
  refine j_arg (k := 1) C (by omega) rfl dL_law_554 dL_law_555 dL_law_556 dL_law_557 dL_law_558 ?_
  refine j_callMi (n := 1) C [.int (xs (n + 1))] [.int r] (c_X6_loners C.2.2.2.2.1 h2) rfl ⟨zx197, zx198, zx199⟩ ⟨zx200, zx201, by decide +kernel⟩ ⟨rfl, rfl, by decide, by decide⟩ rfl rfl (Nat.le_of_ble_eq_true rfl) dL_law_559 ?_
  refine j_eq (tgt := 1090) C dL_law_562 (by decide) ?_
  exact back h3
set_option maxRecDepth 20000 in
theorem law_13 {p : Program} {l : Launch} {e : Env} {s : State} {m : MethodId} {below : List Frame} {meth : Method} {c : Code} {D : va_G} {cI cO cA : ClassId} {a b : Nat → Nat} {bb L : Nat} {xs : Nat → Int32} {σ τ : zSt} {n : Nat} (C : zCL p s m meth c D cI cO cA a b bb L xs) (hn : n + 6 ≤ L) (hR : zRel σ τ) (back : ∀ {σ2 τ2 : zSt}, zRel σ2 τ2 → zLJ p l e s m below meth c D cI cO cA a b bb σ2 τ2 1090 (nI n) []) : zLJ p l e s m below meth c D cI cO cA a b bb σ τ 567 (nI n) [] := by
  obtain ⟨r, σ2, τ2, h1, h2, h3⟩ := sim_part (xs (n + 1)) (xs (n + 2)) σ τ hR
  refine j_aload C dL_law_567 rfl ?_
  refine j_arg (k := 1) C (by omega) rfl dL_law_568 dL_law_569 dL_law_570 dL_law_571 dL_law_572 ?_
  refine j_arg (k := 2) C (by omega) rfl dL_law_573 dL_law_574 dL_law_575 dL_law_576 dL_law_577 ?_
  refine j_callXi (n := 2) C [.int (xs (n + 1)), .int (xs (n + 2))] [] (c_X5_part C.2.2.2.1 h1) rfl ⟨zx202, zx203, zx204⟩ ⟨zx205, zx206, by decide +kernel⟩ ⟨rfl, rfl, by decide, by decide⟩ rfl rfl (Nat.le_of_ble_eq_true rfl) dL_law_578 ?_
  refine j_aload C dL_law_581 rfl ?_
  refine j_arg (k := 1) C (by omega) rfl dL_law_582 dL_law_583 dL_law_584 dL_law_585 dL_law_586 ?_
  refine j_arg (k := 2) C (by omega) rfl dL_law_587 dL_law_588 dL_law_589 dL_law_590 dL_law_591 ?_
  refine j_callMi (n := 2) C [.int (xs (n + 1)), .int (xs (n + 2))] [.int r] (c_X6_part C.2.2.2.2.1 h2) rfl ⟨zx207, zx208, zx209⟩ ⟨zx210, zx211, by decide +kernel⟩ ⟨rfl, rfl, by decide, by decide⟩ rfl rfl (Nat.le_of_ble_eq_true rfl) dL_law_592 ?_
  refine j_eq (tgt := 1090) C dL_law_595 (by decide) ?_
  exact back h3
set_option maxRecDepth 20000 in
theorem law_14 {p : Program} {l : Launch} {e : Env} {s : State} {m : MethodId} {below : List Frame} {meth : Method} {c : Code} {D : va_G} {cI cO cA : ClassId} {a b : Nat → Nat} {bb L : Nat} {xs : Nat → Int32} {σ τ : zSt} {n : Nat} (C : zCL p s m meth c D cI cO cA a b bb L xs) (hn : n + 6 ≤ L) (hR : zRel σ τ) (back : ∀ {σ2 τ2 : zSt}, zRel σ2 τ2 → zLJ p l e s m below meth c D cI cO cA a b bb σ2 τ2 1090 (nI n) []) : zLJ p l e s m below meth c D cI cO cA a b bb σ τ 600 (nI n) [] := by
  obtain ⟨r, σ2, τ2, h1, h2, h3⟩ := sim_reading (xs (n + 1)) (xs (n + 2)) (xs (n + 3)) σ τ hR
  refine j_aload C dL_law_600 rfl ?_
  refine j_arg (k := 1) C (by omega) rfl dL_law_601 dL_law_602 dL_law_603 dL_law_604 dL_law_605 ?_
  refine j_arg (k := 2) C (by omega) rfl dL_law_606 dL_law_607 dL_law_608 dL_law_609 dL_law_610 ?_
  refine j_arg (k := 3) C (by omega) rfl dL_law_611 dL_law_612 dL_law_613 dL_law_614 dL_law_615 ?_
  refine j_callXi (n := 3) C [.int (xs (n + 1)), .int (xs (n + 2)), .int (xs (n + 3))] [] (c_X5_reading C.2.2.2.1 h1) rfl ⟨zx212, zx213, zx214⟩ ⟨zx215, zx216, by decide +kernel⟩ ⟨rfl, rfl, by decide, by decide⟩ rfl rfl (Nat.le_of_ble_eq_true rfl) dL_law_616 ?_
  refine j_aload C dL_law_619 rfl ?_
  refine j_arg (k := 1) C (by omega) rfl dL_law_620 dL_law_621 dL_law_622 dL_law_623 dL_law_624 ?_
  refine j_arg (k := 2) C (by omega) rfl dL_law_625 dL_law_626 dL_law_627 dL_law_628 dL_law_629 ?_
  refine j_arg (k := 3) C (by omega) rfl dL_law_630 dL_law_631 dL_law_632 dL_law_633 dL_law_634 ?_
  refine j_callMi (n := 3) C [.int (xs (n + 1)), .int (xs (n + 2)), .int (xs (n + 3))] [.int r] (c_X6_reading C.2.2.2.2.1 h2) rfl ⟨zx217, zx218, zx219⟩ ⟨zx220, zx221, by decide +kernel⟩ ⟨rfl, rfl, by decide, by decide⟩ rfl rfl (Nat.le_of_ble_eq_true rfl) dL_law_635 ?_
  refine j_eq (tgt := 1090) C dL_law_638 (by decide) ?_
  exact back h3
set_option maxRecDepth 20000 in
theorem law_15 {p : Program} {l : Launch} {e : Env} {s : State} {m : MethodId} {below : List Frame} {meth : Method} {c : Code} {D : va_G} {cI cO cA : ClassId} {a b : Nat → Nat} {bb L : Nat} {xs : Nat → Int32} {σ τ : zSt} {n : Nat} (C : zCL p s m meth c D cI cO cA a b bb L xs) (hn : n + 6 ≤ L) (hR : zRel σ τ) (back : ∀ {σ2 τ2 : zSt}, zRel σ2 τ2 → zLJ p l e s m below meth c D cI cO cA a b bb σ2 τ2 1090 (nI n) []) : zLJ p l e s m below meth c D cI cO cA a b bb σ τ 643 (nI n) [] := by
  obtain ⟨r, σ2, τ2, h1, h2, h3⟩ := sim_back (xs (n + 1)) σ τ hR
  refine j_aload C dL_law_643 rfl ?_
  refine j_arg (k := 1) C (by omega) rfl dL_law_644 dL_law_645 dL_law_646 dL_law_647 dL_law_648 ?_
  refine j_callXi (n := 1) C [.int (xs (n + 1))] [] (c_X5_back C.2.2.2.1 h1) rfl ⟨zx222, zx223, zx224⟩ ⟨zx225, zx226, by decide +kernel⟩ ⟨rfl, rfl, by decide, by decide⟩ rfl rfl (Nat.le_of_ble_eq_true rfl) dL_law_649 ?_
  refine j_aload C dL_law_652 rfl ?_
  refine j_arg (k := 1) C (by omega) rfl dL_law_653 dL_law_654 dL_law_655 dL_law_656 dL_law_657 ?_
  refine j_callMi (n := 1) C [.int (xs (n + 1))] [.int r] (c_X6_back C.2.2.2.2.1 h2) rfl ⟨zx227, zx228, zx229⟩ ⟨zx230, zx231, by decide +kernel⟩ ⟨rfl, rfl, by decide, by decide⟩ rfl rfl (Nat.le_of_ble_eq_true rfl) dL_law_658 ?_
  refine j_eq (tgt := 1090) C dL_law_661 (by decide) ?_
  exact back h3
set_option maxRecDepth 20000 in
theorem law_16 {p : Program} {l : Launch} {e : Env} {s : State} {m : MethodId} {below : List Frame} {meth : Method} {c : Code} {D : va_G} {cI cO cA : ClassId} {a b : Nat → Nat} {bb L : Nat} {xs : Nat → Int32} {σ τ : zSt} {n : Nat} (C : zCL p s m meth c D cI cO cA a b bb L xs) (hn : n + 6 ≤ L) (hR : zRel σ τ) (back : ∀ {σ2 τ2 : zSt}, zRel σ2 τ2 → zLJ p l e s m below meth c D cI cO cA a b bb σ2 τ2 1090 (nI n) []) : zLJ p l e s m below meth c D cI cO cA a b bb σ τ 666 (nI n) [] := by
  obtain ⟨r, σ2, τ2, h1, h2, h3⟩ := sim_loadings (xs (n + 1)) σ τ hR
  refine j_aload C dL_law_666 rfl ?_
  refine j_arg (k := 1) C (by omega) rfl dL_law_667 dL_law_668 dL_law_669 dL_law_670 dL_law_671 ?_
  refine j_callXi (n := 1) C [.int (xs (n + 1))] [] (c_X5_loadings C.2.2.2.1 h1) rfl ⟨zx232, zx233, zx234⟩ ⟨zx235, zx236, by decide +kernel⟩ ⟨rfl, rfl, by decide, by decide⟩ rfl rfl (Nat.le_of_ble_eq_true rfl) dL_law_672 ?_
  refine j_aload C dL_law_675 rfl ?_
  refine j_arg (k := 1) C (by omega) rfl dL_law_676 dL_law_677 dL_law_678 dL_law_679 dL_law_680 ?_
  refine j_callMi (n := 1) C [.int (xs (n + 1))] [.int r] (c_X6_loadings C.2.2.2.2.1 h2) rfl ⟨zx237, zx238, zx239⟩ ⟨zx240, zx241, by decide +kernel⟩ ⟨rfl, rfl, by decide, by decide⟩ rfl rfl (Nat.le_of_ble_eq_true rfl) dL_law_681 ?_
  refine j_eq (tgt := 1090) C dL_law_684 (by decide) ?_
  exact back h3
set_option maxRecDepth 20000 in
theorem law_17 {p : Program} {l : Launch} {e : Env} {s : State} {m : MethodId} {below : List Frame} {meth : Method} {c : Code} {D : va_G} {cI cO cA : ClassId} {a b : Nat → Nat} {bb L : Nat} {xs : Nat → Int32} {σ τ : zSt} {n : Nat} (C : zCL p s m meth c D cI cO cA a b bb L xs) (hn : n + 6 ≤ L) (hR : zRel σ τ) (back : ∀ {σ2 τ2 : zSt}, zRel σ2 τ2 → zLJ p l e s m below meth c D cI cO cA a b bb σ2 τ2 1090 (nI n) []) : zLJ p l e s m below meth c D cI cO cA a b bb σ τ 689 (nI n) [] := by
  obtain ⟨r, σ2, τ2, h1, h2, h3⟩ := sim_kinds (xs (n + 1)) σ τ hR
  refine j_aload C dL_law_689 rfl ?_
  refine j_arg (k := 1) C (by omega) rfl dL_law_690 dL_law_691 dL_law_692 dL_law_693 dL_law_694 ?_
  refine j_callXi (n := 1) C [.int (xs (n + 1))] [] (c_X5_kinds C.2.2.2.1 h1) rfl ⟨zx242, zx243, zx244⟩ ⟨zx245, zx246, by decide +kernel⟩ ⟨rfl, rfl, by decide, by decide⟩ rfl rfl (Nat.le_of_ble_eq_true rfl) dL_law_695 ?_
  refine j_aload C dL_law_698 rfl ?_
  refine j_arg (k := 1) C (by omega) rfl dL_law_699 dL_law_700 dL_law_701 dL_law_702 dL_law_703 ?_
  refine j_callMi (n := 1) C [.int (xs (n + 1))] [.int r] (c_X6_kinds C.2.2.2.2.1 h2) rfl ⟨zx247, zx248, zx249⟩ ⟨zx250, zx251, by decide +kernel⟩ ⟨rfl, rfl, by decide, by decide⟩ rfl rfl (Nat.le_of_ble_eq_true rfl) dL_law_704 ?_
  refine j_eq (tgt := 1090) C dL_law_707 (by decide) ?_
  exact back h3
set_option maxRecDepth 20000 in
theorem law_18 {p : Program} {l : Launch} {e : Env} {s : State} {m : MethodId} {below : List Frame} {meth : Method} {c : Code} {D : va_G} {cI cO cA : ClassId} {a b : Nat → Nat} {bb L : Nat} {xs : Nat → Int32} {σ τ : zSt} {n : Nat} (C : zCL p s m meth c D cI cO cA a b bb L xs) (hn : n + 6 ≤ L) (hR : zRel σ τ) (back : ∀ {σ2 τ2 : zSt}, zRel σ2 τ2 → zLJ p l e s m below meth c D cI cO cA a b bb σ2 τ2 1090 (nI n) []) : zLJ p l e s m below meth c D cI cO cA a b bb σ τ 712 (nI n) [] := by
  obtain ⟨r, σ2, τ2, h1, h2, h3⟩ := sim_odds (xs (n + 1)) (xs (n + 2)) σ τ hR
  refine j_aload C dL_law_712 rfl ?_
  refine j_arg (k := 1) C (by omega) rfl dL_law_713 dL_law_714 dL_law_715 dL_law_716 dL_law_717 ?_
  refine j_arg (k := 2) C (by omega) rfl dL_law_718 dL_law_719 dL_law_720 dL_law_721 dL_law_722 ?_
  refine j_callXl (n := 2) C [.int (xs (n + 1)), .int (xs (n + 2))] [] (c_X5_odds C.2.2.2.1 h1) rfl ⟨zx252, zx253, zx254⟩ ⟨zx255, zx256, by decide +kernel⟩ ⟨rfl, rfl, by decide, by decide⟩ rfl rfl (Nat.le_of_ble_eq_true rfl) dL_law_723 ?_
  refine j_aload C dL_law_726 rfl ?_
  refine j_arg (k := 1) C (by omega) rfl dL_law_727 dL_law_728 dL_law_729 dL_law_730 dL_law_731 ?_
  refine j_arg (k := 2) C (by omega) rfl dL_law_732 dL_law_733 dL_law_734 dL_law_735 dL_law_736 ?_
  refine j_callMl (n := 2) C [.int (xs (n + 1)), .int (xs (n + 2))] [.long r] (c_X6_odds C.2.2.2.2.1 h2) rfl ⟨zx257, zx258, zx259⟩ ⟨zx260, zx261, by decide +kernel⟩ ⟨rfl, rfl, by decide, by decide⟩ rfl rfl (Nat.le_of_ble_eq_true rfl) dL_law_737 ?_
  refine j_leq (tgt := 1090) C dL_law_740 dL_law_741 (by decide) ?_
  exact back h3
set_option maxRecDepth 20000 in
theorem law_19 {p : Program} {l : Launch} {e : Env} {s : State} {m : MethodId} {below : List Frame} {meth : Method} {c : Code} {D : va_G} {cI cO cA : ClassId} {a b : Nat → Nat} {bb L : Nat} {xs : Nat → Int32} {σ τ : zSt} {n : Nat} (C : zCL p s m meth c D cI cO cA a b bb L xs) (hn : n + 6 ≤ L) (hR : zRel σ τ) (back : ∀ {σ2 τ2 : zSt}, zRel σ2 τ2 → zLJ p l e s m below meth c D cI cO cA a b bb σ2 τ2 1090 (nI n) []) : zLJ p l e s m below meth c D cI cO cA a b bb σ τ 746 (nI n) [] := by
  obtain ⟨r, σ2, τ2, h1, h2, h3⟩ := sim_sheet (xs (n + 1)) (xs (n + 2)) (xs (n + 3)) σ τ hR
  refine j_aload C dL_law_746 rfl ?_
  refine j_arg (k := 1) C (by omega) rfl dL_law_747 dL_law_748 dL_law_749 dL_law_750 dL_law_751 ?_
  refine j_arg (k := 2) C (by omega) rfl dL_law_752 dL_law_753 dL_law_754 dL_law_755 dL_law_756 ?_
  refine j_arg (k := 3) C (by omega) rfl dL_law_757 dL_law_758 dL_law_759 dL_law_760 dL_law_761 ?_
  refine j_callXi (n := 3) C [.int (xs (n + 1)), .int (xs (n + 2)), .int (xs (n + 3))] [] (c_X5_sheet C.2.2.2.1 h1) rfl ⟨zx262, zx263, zx264⟩ ⟨zx265, zx266, by decide +kernel⟩ ⟨rfl, rfl, by decide, by decide⟩ rfl rfl (Nat.le_of_ble_eq_true rfl) dL_law_762 ?_
  refine j_aload C dL_law_765 rfl ?_
  refine j_arg (k := 1) C (by omega) rfl dL_law_766 dL_law_767 dL_law_768 dL_law_769 dL_law_770 ?_
  refine j_arg (k := 2) C (by omega) rfl dL_law_771 dL_law_772 dL_law_773 dL_law_774 dL_law_775 ?_
  refine j_arg (k := 3) C (by omega) rfl dL_law_776 dL_law_777 dL_law_778 dL_law_779 dL_law_780 ?_
  refine j_callMi (n := 3) C [.int (xs (n + 1)), .int (xs (n + 2)), .int (xs (n + 3))] [.int r] (c_X6_sheet C.2.2.2.2.1 h2) rfl ⟨zx267, zx268, zx269⟩ ⟨zx270, zx271, by decide +kernel⟩ ⟨rfl, rfl, by decide, by decide⟩ rfl rfl (Nat.le_of_ble_eq_true rfl) dL_law_781 ?_
  refine j_eq (tgt := 1090) C dL_law_784 (by decide) ?_
  exact back h3
set_option maxRecDepth 20000 in
theorem law_20 {p : Program} {l : Launch} {e : Env} {s : State} {m : MethodId} {below : List Frame} {meth : Method} {c : Code} {D : va_G} {cI cO cA : ClassId} {a b : Nat → Nat} {bb L : Nat} {xs : Nat → Int32} {σ τ : zSt} {n : Nat} (C : zCL p s m meth c D cI cO cA a b bb L xs) (hn : n + 6 ≤ L) (hR : zRel σ τ) (back : ∀ {σ2 τ2 : zSt}, zRel σ2 τ2 → zLJ p l e s m below meth c D cI cO cA a b bb σ2 τ2 1090 (nI n) []) : zLJ p l e s m below meth c D cI cO cA a b bb σ τ 789 (nI n) [] := by
  obtain ⟨r, σ2, τ2, h1, h2, h3⟩ := sim_lose (xs (n + 1)) σ τ hR
  refine j_aload C dL_law_789 rfl ?_
  refine j_arg (k := 1) C (by omega) rfl dL_law_790 dL_law_791 dL_law_792 dL_law_793 dL_law_794 ?_
  refine j_callXi (n := 1) C [.int (xs (n + 1))] [] (c_X5_lose C.2.2.2.1 h1) rfl ⟨zx272, zx273, zx274⟩ ⟨zx275, zx276, by decide +kernel⟩ ⟨rfl, rfl, by decide, by decide⟩ rfl rfl (Nat.le_of_ble_eq_true rfl) dL_law_795 ?_
  refine j_aload C dL_law_798 rfl ?_
  refine j_arg (k := 1) C (by omega) rfl dL_law_799 dL_law_800 dL_law_801 dL_law_802 dL_law_803 ?_
  refine j_callMi (n := 1) C [.int (xs (n + 1))] [.int r] (c_X6_lose C.2.2.2.2.1 h2) rfl ⟨zx277, zx278, zx279⟩ ⟨zx280, zx281, by decide +kernel⟩ ⟨rfl, rfl, by decide, by decide⟩ rfl rfl (Nat.le_of_ble_eq_true rfl) dL_law_804 ?_
  refine j_eq (tgt := 1090) C dL_law_807 (by decide) ?_
  exact back h3
set_option maxRecDepth 20000 in
theorem law_21 {p : Program} {l : Launch} {e : Env} {s : State} {m : MethodId} {below : List Frame} {meth : Method} {c : Code} {D : va_G} {cI cO cA : ClassId} {a b : Nat → Nat} {bb L : Nat} {xs : Nat → Int32} {σ τ : zSt} {n : Nat} (C : zCL p s m meth c D cI cO cA a b bb L xs) (hn : n + 6 ≤ L) (hR : zRel σ τ) (back : ∀ {σ2 τ2 : zSt}, zRel σ2 τ2 → zLJ p l e s m below meth c D cI cO cA a b bb σ2 τ2 1090 (nI n) []) : zLJ p l e s m below meth c D cI cO cA a b bb σ τ 812 (nI n) [] := by
  obtain ⟨r, σ2, τ2, h1, h2, h3⟩ := sim_put (xs (n + 1)) (xs (n + 2)) (xs (n + 3)) σ τ hR
  refine j_aload C dL_law_812 rfl ?_
  refine j_arg (k := 1) C (by omega) rfl dL_law_813 dL_law_814 dL_law_815 dL_law_816 dL_law_817 ?_
  refine j_arg (k := 2) C (by omega) rfl dL_law_818 dL_law_819 dL_law_820 dL_law_821 dL_law_822 ?_
  refine j_arg (k := 3) C (by omega) rfl dL_law_823 dL_law_824 dL_law_825 dL_law_826 dL_law_827 ?_
  refine j_callXi (n := 3) C [.int (xs (n + 1)), .int (xs (n + 2)), .int (xs (n + 3))] [] (c_X5_put C.2.2.2.1 h1) rfl ⟨zx282, zx283, zx284⟩ ⟨zx285, zx286, by decide +kernel⟩ ⟨rfl, rfl, by decide, by decide⟩ rfl rfl (Nat.le_of_ble_eq_true rfl) dL_law_828 ?_
  refine j_aload C dL_law_831 rfl ?_
  refine j_arg (k := 1) C (by omega) rfl dL_law_832 dL_law_833 dL_law_834 dL_law_835 dL_law_836 ?_
  refine j_arg (k := 2) C (by omega) rfl dL_law_837 dL_law_838 dL_law_839 dL_law_840 dL_law_841 ?_
  refine j_arg (k := 3) C (by omega) rfl dL_law_842 dL_law_843 dL_law_844 dL_law_845 dL_law_846 ?_
  refine j_callMi (n := 3) C [.int (xs (n + 1)), .int (xs (n + 2)), .int (xs (n + 3))] [.int r] (c_X6_put C.2.2.2.2.1 h2) rfl ⟨zx287, zx288, zx289⟩ ⟨zx290, zx291, by decide +kernel⟩ ⟨rfl, rfl, by decide, by decide⟩ rfl rfl (Nat.le_of_ble_eq_true rfl) dL_law_847 ?_
  refine j_eq (tgt := 1090) C dL_law_850 (by decide) ?_
  exact back h3
set_option maxRecDepth 20000 in
theorem law_22 {p : Program} {l : Launch} {e : Env} {s : State} {m : MethodId} {below : List Frame} {meth : Method} {c : Code} {D : va_G} {cI cO cA : ClassId} {a b : Nat → Nat} {bb L : Nat} {xs : Nat → Int32} {σ τ : zSt} {n : Nat} (C : zCL p s m meth c D cI cO cA a b bb L xs) (hn : n + 6 ≤ L) (hR : zRel σ τ) (back : ∀ {σ2 τ2 : zSt}, zRel σ2 τ2 → zLJ p l e s m below meth c D cI cO cA a b bb σ2 τ2 1090 (nI n) []) : zLJ p l e s m below meth c D cI cO cA a b bb σ τ 855 (nI n) [] := by
  obtain ⟨r, σ2, τ2, h1, h2, h3⟩ := sim_cell (xs (n + 1)) (xs (n + 2)) (xs (n + 3)) σ τ hR
  refine j_aload C dL_law_855 rfl ?_
  refine j_arg (k := 1) C (by omega) rfl dL_law_856 dL_law_857 dL_law_858 dL_law_859 dL_law_860 ?_
  refine j_arg (k := 2) C (by omega) rfl dL_law_861 dL_law_862 dL_law_863 dL_law_864 dL_law_865 ?_
  refine j_arg (k := 3) C (by omega) rfl dL_law_866 dL_law_867 dL_law_868 dL_law_869 dL_law_870 ?_
  refine j_callXl (n := 3) C [.int (xs (n + 1)), .int (xs (n + 2)), .int (xs (n + 3))] [] (c_X5_cell C.2.2.2.1 h1) rfl ⟨zx292, zx293, zx294⟩ ⟨zx295, zx296, by decide +kernel⟩ ⟨rfl, rfl, by decide, by decide⟩ rfl rfl (Nat.le_of_ble_eq_true rfl) dL_law_871 ?_
  refine j_aload C dL_law_874 rfl ?_
  refine j_arg (k := 1) C (by omega) rfl dL_law_875 dL_law_876 dL_law_877 dL_law_878 dL_law_879 ?_
  refine j_arg (k := 2) C (by omega) rfl dL_law_880 dL_law_881 dL_law_882 dL_law_883 dL_law_884 ?_
  refine j_arg (k := 3) C (by omega) rfl dL_law_885 dL_law_886 dL_law_887 dL_law_888 dL_law_889 ?_
  refine j_callMl (n := 3) C [.int (xs (n + 1)), .int (xs (n + 2)), .int (xs (n + 3))] [.long r] (c_X6_cell C.2.2.2.2.1 h2) rfl ⟨zx297, zx298, zx299⟩ ⟨zx300, zx301, by decide +kernel⟩ ⟨rfl, rfl, by decide, by decide⟩ rfl rfl (Nat.le_of_ble_eq_true rfl) dL_law_890 ?_
  refine j_leq (tgt := 1090) C dL_law_893 dL_law_894 (by decide) ?_
  exact back h3
set_option maxRecDepth 20000 in
theorem law_23 {p : Program} {l : Launch} {e : Env} {s : State} {m : MethodId} {below : List Frame} {meth : Method} {c : Code} {D : va_G} {cI cO cA : ClassId} {a b : Nat → Nat} {bb L : Nat} {xs : Nat → Int32} {σ τ : zSt} {n : Nat} (C : zCL p s m meth c D cI cO cA a b bb L xs) (hn : n + 6 ≤ L) (hR : zRel σ τ) (back : ∀ {σ2 τ2 : zSt}, zRel σ2 τ2 → zLJ p l e s m below meth c D cI cO cA a b bb σ2 τ2 1090 (nI n) []) : zLJ p l e s m below meth c D cI cO cA a b bb σ τ 899 (nI n) [] := by
  obtain ⟨r, σ2, τ2, h1, h2, h3⟩ := sim_copy (xs (n + 1)) (xs (n + 2)) (xs (n + 3)) (xs (n + 4)) (xs (n + 5)) σ τ hR
  refine j_aload C dL_law_899 rfl ?_
  refine j_arg (k := 1) C (by omega) rfl dL_law_900 dL_law_901 dL_law_902 dL_law_903 dL_law_904 ?_
  refine j_arg (k := 2) C (by omega) rfl dL_law_905 dL_law_906 dL_law_907 dL_law_908 dL_law_909 ?_
  refine j_arg (k := 3) C (by omega) rfl dL_law_910 dL_law_911 dL_law_912 dL_law_913 dL_law_914 ?_
  refine j_arg (k := 4) C (by omega) rfl dL_law_915 dL_law_916 dL_law_917 dL_law_918 dL_law_919 ?_
  refine j_arg (k := 5) C (by omega) rfl dL_law_920 dL_law_921 dL_law_922 dL_law_923 dL_law_924 ?_
  refine j_callXi (n := 5) C [.int (xs (n + 1)), .int (xs (n + 2)), .int (xs (n + 3)), .int (xs (n + 4)), .int (xs (n + 5))] [] (c_X5_copy C.2.2.2.1 h1) rfl ⟨zx302, zx303, zx304⟩ ⟨zx305, zx306, by decide +kernel⟩ ⟨rfl, rfl, by decide, by decide⟩ rfl rfl (Nat.le_of_ble_eq_true rfl) dL_law_925 ?_
  refine j_aload C dL_law_928 rfl ?_
  refine j_arg (k := 1) C (by omega) rfl dL_law_929 dL_law_930 dL_law_931 dL_law_932 dL_law_933 ?_
  refine j_arg (k := 2) C (by omega) rfl dL_law_934 dL_law_935 dL_law_936 dL_law_937 dL_law_938 ?_
  refine j_arg (k := 3) C (by omega) rfl dL_law_939 dL_law_940 dL_law_941 dL_law_942 dL_law_943 ?_
  refine j_arg (k := 4) C (by omega) rfl dL_law_944 dL_law_945 dL_law_946 dL_law_947 dL_law_948 ?_
  refine j_arg (k := 5) C (by omega) rfl dL_law_949 dL_law_950 dL_law_951 dL_law_952 dL_law_953 ?_
  refine j_callMi (n := 5) C [.int (xs (n + 1)), .int (xs (n + 2)), .int (xs (n + 3)), .int (xs (n + 4)), .int (xs (n + 5))] [.int r] (c_X6_copy C.2.2.2.2.1 h2) rfl ⟨zx307, zx308, zx309⟩ ⟨zx310, zx311, by decide +kernel⟩ ⟨rfl, rfl, by decide, by decide⟩ rfl rfl (Nat.le_of_ble_eq_true rfl) dL_law_954 ?_
  refine j_eq (tgt := 1090) C dL_law_957 (by decide) ?_
  exact back h3
set_option maxRecDepth 20000 in
theorem law_24 {p : Program} {l : Launch} {e : Env} {s : State} {m : MethodId} {below : List Frame} {meth : Method} {c : Code} {D : va_G} {cI cO cA : ClassId} {a b : Nat → Nat} {bb L : Nat} {xs : Nat → Int32} {σ τ : zSt} {n : Nat} (C : zCL p s m meth c D cI cO cA a b bb L xs) (hn : n + 6 ≤ L) (hR : zRel σ τ) (back : ∀ {σ2 τ2 : zSt}, zRel σ2 τ2 → zLJ p l e s m below meth c D cI cO cA a b bb σ2 τ2 1090 (nI n) []) : zLJ p l e s m below meth c D cI cO cA a b bb σ τ 962 (nI n) [] := by
  obtain ⟨r, σ2, τ2, h1, h2, h3⟩ := sim_tell (xs (n + 1)) σ τ hR
  refine j_aload C dL_law_962 rfl ?_
  refine j_arg (k := 1) C (by omega) rfl dL_law_963 dL_law_964 dL_law_965 dL_law_966 dL_law_967 ?_
  refine j_callXi (n := 1) C [.int (xs (n + 1))] [] (c_X5_tell C.2.2.2.1 h1) rfl ⟨zx312, zx313, zx314⟩ ⟨zx315, zx316, by decide +kernel⟩ ⟨rfl, rfl, by decide, by decide⟩ rfl rfl (Nat.le_of_ble_eq_true rfl) dL_law_968 ?_
  refine j_aload C dL_law_971 rfl ?_
  refine j_arg (k := 1) C (by omega) rfl dL_law_972 dL_law_973 dL_law_974 dL_law_975 dL_law_976 ?_
  refine j_callMi (n := 1) C [.int (xs (n + 1))] [.int r] (c_X6_tell C.2.2.2.2.1 h2) rfl ⟨zx317, zx318, zx319⟩ ⟨zx320, zx321, by decide +kernel⟩ ⟨rfl, rfl, by decide, by decide⟩ rfl rfl (Nat.le_of_ble_eq_true rfl) dL_law_977 ?_
  refine j_eq (tgt := 1090) C dL_law_980 (by decide) ?_
  exact back h3
set_option maxRecDepth 20000 in
theorem law_25 {p : Program} {l : Launch} {e : Env} {s : State} {m : MethodId} {below : List Frame} {meth : Method} {c : Code} {D : va_G} {cI cO cA : ClassId} {a b : Nat → Nat} {bb L : Nat} {xs : Nat → Int32} {σ τ : zSt} {n : Nat} (C : zCL p s m meth c D cI cO cA a b bb L xs) (hn : n + 6 ≤ L) (hR : zRel σ τ) (back : ∀ {σ2 τ2 : zSt}, zRel σ2 τ2 → zLJ p l e s m below meth c D cI cO cA a b bb σ2 τ2 1090 (nI n) []) : zLJ p l e s m below meth c D cI cO cA a b bb σ τ 985 (nI n) [] := by
  obtain ⟨r, σ2, τ2, h1, h2, h3⟩ := sim_knock (xs (n + 1)) σ τ hR
  refine j_aload C dL_law_985 rfl ?_
  refine j_arg (k := 1) C (by omega) rfl dL_law_986 dL_law_987 dL_law_988 dL_law_989 dL_law_990 ?_
  refine j_callXi (n := 1) C [.int (xs (n + 1))] [] (c_X5_knock C.2.2.2.1 h1) rfl ⟨zx322, zx323, zx324⟩ ⟨zx325, zx326, by decide +kernel⟩ ⟨rfl, rfl, by decide, by decide⟩ rfl rfl (Nat.le_of_ble_eq_true rfl) dL_law_991 ?_
  refine j_aload C dL_law_994 rfl ?_
  refine j_arg (k := 1) C (by omega) rfl dL_law_995 dL_law_996 dL_law_997 dL_law_998 dL_law_999 ?_
  refine j_callMi (n := 1) C [.int (xs (n + 1))] [.int r] (c_X6_knock C.2.2.2.2.1 h2) rfl ⟨zx327, zx328, zx329⟩ ⟨zx330, zx331, by decide +kernel⟩ ⟨rfl, rfl, by decide, by decide⟩ rfl rfl (Nat.le_of_ble_eq_true rfl) dL_law_1000 ?_
  refine j_eq (tgt := 1090) C dL_law_1003 (by decide) ?_
  exact back h3
set_option maxRecDepth 20000 in
theorem law_26 {p : Program} {l : Launch} {e : Env} {s : State} {m : MethodId} {below : List Frame} {meth : Method} {c : Code} {D : va_G} {cI cO cA : ClassId} {a b : Nat → Nat} {bb L : Nat} {xs : Nat → Int32} {σ τ : zSt} {n : Nat} (C : zCL p s m meth c D cI cO cA a b bb L xs) (hn : n + 6 ≤ L) (hR : zRel σ τ) (back : ∀ {σ2 τ2 : zSt}, zRel σ2 τ2 → zLJ p l e s m below meth c D cI cO cA a b bb σ2 τ2 1090 (nI n) []) : zLJ p l e s m below meth c D cI cO cA a b bb σ τ 1008 (nI n) [] := by
  obtain ⟨r, σ2, τ2, h1, h2, h3⟩ := sim_as (xs (n + 1)) (xs (n + 2)) σ τ hR
  refine j_aload C dL_law_1008 rfl ?_
  refine j_arg (k := 1) C (by omega) rfl dL_law_1009 dL_law_1010 dL_law_1011 dL_law_1012 dL_law_1013 ?_
  refine j_arg (k := 2) C (by omega) rfl dL_law_1014 dL_law_1015 dL_law_1016 dL_law_1017 dL_law_1018 ?_
  refine j_callXi (n := 2) C [.int (xs (n + 1)), .int (xs (n + 2))] [] (c_X5_as C.2.2.2.1 h1) rfl ⟨zx332, zx333, zx334⟩ ⟨zx335, zx336, by decide +kernel⟩ ⟨rfl, rfl, by decide, by decide⟩ rfl rfl (Nat.le_of_ble_eq_true rfl) dL_law_1019 ?_
  refine j_aload C dL_law_1022 rfl ?_
  refine j_arg (k := 1) C (by omega) rfl dL_law_1023 dL_law_1024 dL_law_1025 dL_law_1026 dL_law_1027 ?_
  refine j_arg (k := 2) C (by omega) rfl dL_law_1028 dL_law_1029 dL_law_1030 dL_law_1031 dL_law_1032 ?_
  refine j_callMi (n := 2) C [.int (xs (n + 1)), .int (xs (n + 2))] [.int r] (c_X6_as C.2.2.2.2.1 h2) rfl ⟨zx337, zx338, zx339⟩ ⟨zx340, zx341, by decide +kernel⟩ ⟨rfl, rfl, by decide, by decide⟩ rfl rfl (Nat.le_of_ble_eq_true rfl) dL_law_1033 ?_
  refine j_eq (tgt := 1090) C dL_law_1036 (by decide) ?_
  exact back h3
set_option maxRecDepth 20000 in
theorem law_27 {p : Program} {l : Launch} {e : Env} {s : State} {m : MethodId} {below : List Frame} {meth : Method} {c : Code} {D : va_G} {cI cO cA : ClassId} {a b : Nat → Nat} {bb L : Nat} {xs : Nat → Int32} {σ τ : zSt} {n : Nat} (C : zCL p s m meth c D cI cO cA a b bb L xs) (hn : n + 6 ≤ L) (hR : zRel σ τ) (back : ∀ {σ2 τ2 : zSt}, zRel σ2 τ2 → zLJ p l e s m below meth c D cI cO cA a b bb σ2 τ2 1090 (nI n) []) : zLJ p l e s m below meth c D cI cO cA a b bb σ τ 1041 (nI n) [] := by
  obtain ⟨r, σ2, τ2, h1, h2, h3⟩ := sim_trace σ τ hR
  refine j_aload C dL_law_1041 rfl ?_
  refine j_callXi (n := 0) C [] [] (c_X5_trace C.2.2.2.1 h1) rfl ⟨zx342, zx343, zx344⟩ ⟨zx345, zx346, by decide +kernel⟩ ⟨rfl, rfl, by decide, by decide⟩ rfl rfl (Nat.le_of_ble_eq_true rfl) dL_law_1042 ?_
  refine j_aload C dL_law_1045 rfl ?_
  refine j_callMi (n := 0) C [] [.int r] (c_X6_trace C.2.2.2.2.1 h2) rfl ⟨zx347, zx348, zx349⟩ ⟨zx350, zx351, by decide +kernel⟩ ⟨rfl, rfl, by decide, by decide⟩ rfl rfl (Nat.le_of_ble_eq_true rfl) dL_law_1046 ?_
  refine j_eq (tgt := 1090) C dL_law_1049 (by decide) ?_
  exact back h3
set_option maxRecDepth 20000 in
theorem law_28 {p : Program} {l : Launch} {e : Env} {s : State} {m : MethodId} {below : List Frame} {meth : Method} {c : Code} {D : va_G} {cI cO cA : ClassId} {a b : Nat → Nat} {bb L : Nat} {xs : Nat → Int32} {σ τ : zSt} {n : Nat} (C : zCL p s m meth c D cI cO cA a b bb L xs) (hn : n + 6 ≤ L) (hR : zRel σ τ) (back : ∀ {σ2 τ2 : zSt}, zRel σ2 τ2 → zLJ p l e s m below meth c D cI cO cA a b bb σ2 τ2 1090 (nI n) []) : zLJ p l e s m below meth c D cI cO cA a b bb σ τ 1054 (nI n) [] := by
  obtain ⟨r, σ2, τ2, h1, h2, h3⟩ := sim_fault σ τ hR
  refine j_aload C dL_law_1054 rfl ?_
  refine j_callXi (n := 0) C [] [] (c_X5_fault C.2.2.2.1 h1) rfl ⟨zx352, zx353, zx354⟩ ⟨zx355, zx356, by decide +kernel⟩ ⟨rfl, rfl, by decide, by decide⟩ rfl rfl (Nat.le_of_ble_eq_true rfl) dL_law_1055 ?_
  refine j_aload C dL_law_1058 rfl ?_
  refine j_callMi (n := 0) C [] [.int r] (c_X6_fault C.2.2.2.2.1 h2) rfl ⟨zx357, zx358, zx359⟩ ⟨zx360, zx361, by decide +kernel⟩ ⟨rfl, rfl, by decide, by decide⟩ rfl rfl (Nat.le_of_ble_eq_true rfl) dL_law_1059 ?_
  refine j_eq (tgt := 1090) C dL_law_1062 (by decide) ?_
  exact back h3
set_option maxRecDepth 20000 in
theorem law_29 {p : Program} {l : Launch} {e : Env} {s : State} {m : MethodId} {below : List Frame} {meth : Method} {c : Code} {D : va_G} {cI cO cA : ClassId} {a b : Nat → Nat} {bb L : Nat} {xs : Nat → Int32} {σ τ : zSt} {n : Nat} (C : zCL p s m meth c D cI cO cA a b bb L xs) (hn : n + 6 ≤ L) (hR : zRel σ τ) (back : ∀ {σ2 τ2 : zSt}, zRel σ2 τ2 → zLJ p l e s m below meth c D cI cO cA a b bb σ2 τ2 1090 (nI n) []) : zLJ p l e s m below meth c D cI cO cA a b bb σ τ 1067 (nI n) [] := by
  obtain ⟨r, σ2, τ2, h1, h2, h3⟩ := sim_many (xs (n + 1)) σ τ hR
  refine j_aload C dL_law_1067 rfl ?_
  refine j_arg (k := 1) C (by omega) rfl dL_law_1068 dL_law_1069 dL_law_1070 dL_law_1071 dL_law_1072 ?_
  refine j_callXi (n := 1) C [.int (xs (n + 1))] [] (c_X5_many C.2.2.2.1 h1) rfl ⟨zx362, zx363, zx364⟩ ⟨zx365, zx366, by decide +kernel⟩ ⟨rfl, rfl, by decide, by decide⟩ rfl rfl (Nat.le_of_ble_eq_true rfl) dL_law_1073 ?_
  refine j_aload C dL_law_1076 rfl ?_
  refine j_arg (k := 1) C (by omega) rfl dL_law_1077 dL_law_1078 dL_law_1079 dL_law_1080 dL_law_1081 ?_
  refine j_callMi (n := 1) C [.int (xs (n + 1))] [.int r] (c_X6_many C.2.2.2.2.1 h2) rfl ⟨zx367, zx368, zx369⟩ ⟨zx370, zx371, by decide +kernel⟩ ⟨rfl, rfl, by decide, by decide⟩ rfl rfl (Nat.le_of_ble_eq_true rfl) dL_law_1082 ?_
  refine j_eq (tgt := 1090) C dL_law_1085 (by decide) ?_
  exact back h3
