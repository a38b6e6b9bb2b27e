set_option maxRecDepth 100000 in
theorem cd0 : lw_tbl[90]? = some (Cond.code (mNm me0) (mBy me0) (mMl me0) (mRt me0)) := (rfl)
set_option maxRecDepth 100000 in
theorem cd1 : lw_tbl[98]? = some (Cond.code (mNm me1) (mBy me1) (mMl me1) (mRt me1)) := (rfl)
set_option maxRecDepth 100000 in
theorem cd2 : lw_tbl[106]? = some (Cond.code (mNm me2) (mBy me2) (mMl me2) (mRt me2)) := (rfl)
set_option maxRecDepth 100000 in
theorem cd3 : lw_tbl[140]? = some (Cond.code (mNm me3) (mBy me3) (mMl me3) (mRt me3)) := (rfl)
set_option maxRecDepth 100000 in
theorem cd4 : lw_tbl[165]? = some (Cond.code (mNm me4) (mBy me4) (mMl me4) (mRt me4)) := (rfl)
set_option maxRecDepth 100000 in
theorem cd5 : lw_tbl[198]? = some (Cond.code (mNm me5) (mBy me5) (mMl me5) (mRt me5)) := (rfl)
set_option maxRecDepth 100000 in
theorem cd6 : lw_tbl[229]? = some (Cond.code (mNm me6) (mBy me6) (mMl me6) (mRt me6)) := (rfl)
set_option maxRecDepth 100000 in
theorem cd7 : lw_tbl[349]? = some (Cond.code (mNm me7) (mBy me7) (mMl me7) (mRt me7)) := (rfl)
set_option maxRecDepth 100000 in
theorem cd8 : lw_tbl[357]? = some (Cond.code (mNm me8) (mBy me8) (mMl me8) (mRt me8)) := (rfl)
set_option maxRecDepth 100000 in
theorem cd9 : lw_tbl[379]? = some (Cond.code (mNm me9) (mBy me9) (mMl me9) (mRt me9)) := (rfl)
set_option maxRecDepth 100000 in
theorem cd10 : lw_tbl[508]? = some (Cond.code (mNm me10) (mBy me10) (mMl me10) (mRt me10)) := (rfl)
set_option maxRecDepth 100000 in
theorem cd11 : lw_tbl[544]? = some (Cond.code (mNm me11) (mBy me11) (mMl me11) (mRt me11)) := (rfl)
set_option maxRecDepth 100000 in
theorem cd12 : lw_tbl[547]? = some (Cond.code (mNm me12) (mBy me12) (mMl me12) (mRt me12)) := (rfl)
set_option maxRecDepth 100000 in
theorem cd13 : lw_tbl[551]? = some (Cond.code (mNm me13) (mBy me13) (mMl me13) (mRt me13)) := (rfl)
set_option maxRecDepth 100000 in
theorem cd14 : lw_tbl[555]? = some (Cond.code (mNm me14) (mBy me14) (mMl me14) (mRt me14)) := (rfl)
set_option maxRecDepth 100000 in
theorem cd15 : lw_tbl[559]? = some (Cond.code (mNm me15) (mBy me15) (mMl me15) (mRt me15)) := (rfl)
set_option maxRecDepth 100000 in
theorem cd16 : lw_tbl[562]? = some (Cond.code (mNm me16) (mBy me16) (mMl me16) (mRt me16)) := (rfl)
set_option maxRecDepth 100000 in
theorem cd17 : lw_tbl[565]? = some (Cond.code (mNm me17) (mBy me17) (mMl me17) (mRt me17)) := (rfl)
set_option maxRecDepth 100000 in
theorem cd18 : lw_tbl[569]? = some (Cond.code (mNm me18) (mBy me18) (mMl me18) (mRt me18)) := (rfl)
set_option maxRecDepth 100000 in
theorem cd19 : lw_tbl[573]? = some (Cond.code (mNm me19) (mBy me19) (mMl me19) (mRt me19)) := (rfl)
set_option maxRecDepth 100000 in
theorem cd20 : lw_tbl[577]? = some (Cond.code (mNm me20) (mBy me20) (mMl me20) (mRt me20)) := (rfl)
set_option maxRecDepth 100000 in
theorem cd21 : lw_tbl[581]? = some (Cond.code (mNm me21) (mBy me21) (mMl me21) (mRt me21)) := (rfl)
set_option maxRecDepth 100000 in
theorem cd22 : lw_tbl[585]? = some (Cond.code (mNm me22) (mBy me22) (mMl me22) (mRt me22)) := (rfl)
set_option maxRecDepth 100000 in
theorem cd23 : lw_tbl[589]? = some (Cond.code (mNm me23) (mBy me23) (mMl me23) (mRt me23)) := (rfl)
set_option maxRecDepth 100000 in
theorem cd24 : lw_tbl[593]? = some (Cond.code (mNm me24) (mBy me24) (mMl me24) (mRt me24)) := (rfl)
set_option maxRecDepth 100000 in
theorem cd25 : lw_tbl[598]? = some (Cond.code (mNm me25) (mBy me25) (mMl me25) (mRt me25)) := (rfl)
set_option maxRecDepth 100000 in
theorem cd26 : lw_tbl[602]? = some (Cond.code (mNm me26) (mBy me26) (mMl me26) (mRt me26)) := (rfl)
set_option maxRecDepth 100000 in
theorem cd27 : lw_tbl[606]? = some (Cond.code (mNm me27) (mBy me27) (mMl me27) (mRt me27)) := (rfl)
set_option maxRecDepth 100000 in
theorem cd28 : lw_tbl[610]? = some (Cond.code (mNm me28) (mBy me28) (mMl me28) (mRt me28)) := (rfl)
set_option maxRecDepth 100000 in
theorem cd29 : lw_tbl[616]? = some (Cond.code (mNm me29) (mBy me29) (mMl me29) (mRt me29)) := (rfl)
set_option maxRecDepth 100000 in
theorem cd30 : lw_tbl[620]? = some (Cond.code (mNm me30) (mBy me30) (mMl me30) (mRt me30)) := (rfl)
set_option maxRecDepth 100000 in
theorem cd31 : lw_tbl[624]? = some (Cond.code (mNm me31) (mBy me31) (mMl me31) (mRt me31)) := (rfl)
set_option maxRecDepth 100000 in
theorem cd32 : lw_tbl[628]? = some (Cond.code (mNm me32) (mBy me32) (mMl me32) (mRt me32)) := (rfl)
set_option maxRecDepth 100000 in
theorem cd33 : lw_tbl[632]? = some (Cond.code (mNm me33) (mBy me33) (mMl me33) (mRt me33)) := (rfl)
set_option maxRecDepth 100000 in
theorem cd34 : lw_tbl[636]? = some (Cond.code (mNm me34) (mBy me34) (mMl me34) (mRt me34)) := (rfl)
set_option maxRecDepth 100000 in
theorem cd35 : lw_tbl[640]? = some (Cond.code (mNm me35) (mBy me35) (mMl me35) (mRt me35)) := (rfl)
set_option maxRecDepth 100000 in
theorem cd36 : lw_tbl[644]? = some (Cond.code (mNm me36) (mBy me36) (mMl me36) (mRt me36)) := (rfl)
set_option maxRecDepth 100000 in
theorem cd37 : lw_tbl[648]? = some (Cond.code (mNm me37) (mBy me37) (mMl me37) (mRt me37)) := (rfl)
set_option maxRecDepth 100000 in
theorem cd38 : lw_tbl[652]? = some (Cond.code (mNm me38) (mBy me38) (mMl me38) (mRt me38)) := (rfl)
set_option maxRecDepth 100000 in
theorem cd39 : lw_tbl[656]? = some (Cond.code (mNm me39) (mBy me39) (mMl me39) (mRt me39)) := (rfl)
set_option maxRecDepth 100000 in
theorem cd40 : lw_tbl[660]? = some (Cond.code (mNm me40) (mBy me40) (mMl me40) (mRt me40)) := (rfl)
set_option maxRecDepth 100000 in
theorem cd41 : lw_tbl[664]? = some (Cond.code (mNm me41) (mBy me41) (mMl me41) (mRt me41)) := (rfl)
set_option maxRecDepth 100000 in
theorem cd42 : lw_tbl[668]? = some (Cond.code (mNm me42) (mBy me42) (mMl me42) (mRt me42)) := (rfl)
set_option maxRecDepth 100000 in
theorem cd43 : lw_tbl[672]? = some (Cond.code (mNm me43) (mBy me43) (mMl me43) (mRt me43)) := (rfl)
set_option maxRecDepth 100000 in
theorem cd44 : lw_tbl[676]? = some (Cond.code (mNm me44) (mBy me44) (mMl me44) (mRt me44)) := (rfl)
set_option maxRecDepth 100000 in
theorem cd45 : lw_tbl[680]? = some (Cond.code (mNm me45) (mBy me45) (mMl me45) (mRt me45)) := (rfl)
set_option maxRecDepth 100000 in
theorem cd46 : lw_tbl[684]? = some (Cond.code (mNm me46) (mBy me46) (mMl me46) (mRt me46)) := (rfl)
set_option maxRecDepth 100000 in
theorem cd47 : lw_tbl[688]? = some (Cond.code (mNm me47) (mBy me47) (mMl me47) (mRt me47)) := (rfl)
set_option maxRecDepth 100000 in
theorem cd48 : lw_tbl[692]? = some (Cond.code (mNm me48) (mBy me48) (mMl me48) (mRt me48)) := (rfl)
set_option maxRecDepth 100000 in
theorem cd49 : lw_tbl[696]? = some (Cond.code (mNm me49) (mBy me49) (mMl me49) (mRt me49)) := (rfl)
set_option maxRecDepth 100000 in
theorem cd50 : lw_tbl[700]? = some (Cond.code (mNm me50) (mBy me50) (mMl me50) (mRt me50)) := (rfl)
set_option maxRecDepth 100000 in
theorem cd51 : lw_tbl[703]? = some (Cond.code (mNm me51) (mBy me51) (mMl me51) (mRt me51)) := (rfl)
set_option maxRecDepth 100000 in
theorem cd52 : lw_tbl[707]? = some (Cond.code (mNm me52) (mBy me52) (mMl me52) (mRt me52)) := (rfl)
set_option maxRecDepth 100000 in
theorem cd53 : lw_tbl[711]? = some (Cond.code (mNm me53) (mBy me53) (mMl me53) (mRt me53)) := (rfl)
set_option maxRecDepth 100000 in
theorem cd54 : lw_tbl[715]? = some (Cond.code (mNm me54) (mBy me54) (mMl me54) (mRt me54)) := (rfl)
set_option maxRecDepth 100000 in
theorem cd55 : lw_tbl[719]? = some (Cond.code (mNm me55) (mBy me55) (mMl me55) (mRt me55)) := (rfl)
set_option maxRecDepth 100000 in
theorem cd56 : lw_tbl[723]? = some (Cond.code (mNm me56) (mBy me56) (mMl me56) (mRt me56)) := (rfl)
set_option maxRecDepth 100000 in
theorem cd57 : lw_tbl[726]? = some (Cond.code (mNm me57) (mBy me57) (mMl me57) (mRt me57)) := (rfl)
set_option maxRecDepth 100000 in
theorem cd58 : lw_tbl[731]? = some (Cond.code (mNm me58) (mBy me58) (mMl me58) (mRt me58)) := (rfl)
set_option maxRecDepth 100000 in
theorem cd59 : lw_tbl[735]? = some (Cond.code (mNm me59) (mBy me59) (mMl me59) (mRt me59)) := (rfl)
set_option maxRecDepth 100000 in
theorem cd60 : lw_tbl[739]? = some (Cond.code (mNm me60) (mBy me60) (mMl me60) (mRt me60)) := (rfl)
set_option maxRecDepth 100000 in
theorem cd61 : lw_tbl[743]? = some (Cond.code (mNm me61) (mBy me61) (mMl me61) (mRt me61)) := (rfl)
set_option maxRecDepth 100000 in
theorem cd62 : lw_tbl[746]? = some (Cond.code (mNm me62) (mBy me62) (mMl me62) (mRt me62)) := (rfl)
set_option maxRecDepth 100000 in
theorem cd63 : lw_tbl[749]? = some (Cond.code (mNm me63) (mBy me63) (mMl me63) (mRt me63)) := (rfl)
set_option maxRecDepth 100000 in
theorem cd64 : lw_tbl[752]? = some (Cond.code (mNm me64) (mBy me64) (mMl me64) (mRt me64)) := (rfl)
set_option maxRecDepth 100000 in
theorem cd65 : lw_tbl[756]? = some (Cond.code (mNm me65) (mBy me65) (mMl me65) (mRt me65)) := (rfl)
set_option maxRecDepth 100000 in
theorem cd66 : lw_tbl[760]? = some (Cond.code (mNm me66) (mBy me66) (mMl me66) (mRt me66)) := (rfl)
set_option maxRecDepth 100000 in
theorem cd67 : lw_tbl[763]? = some (Cond.code (mNm me67) (mBy me67) (mMl me67) (mRt me67)) := (rfl)
set_option maxRecDepth 100000 in
theorem cd68 : lw_tbl[770]? = some (Cond.code (mNm me68) (mBy me68) (mMl me68) (mRt me68)) := (rfl)
set_option maxRecDepth 100000 in
theorem cd69 : lw_tbl[774]? = some (Cond.code (mNm me69) (mBy me69) (mMl me69) (mRt me69)) := (rfl)
set_option maxRecDepth 100000 in
theorem cd70 : lw_tbl[778]? = some (Cond.code (mNm me70) (mBy me70) (mMl me70) (mRt me70)) := (rfl)
set_option maxRecDepth 100000 in
theorem cd71 : lw_tbl[782]? = some (Cond.code (mNm me71) (mBy me71) (mMl me71) (mRt me71)) := (rfl)
set_option maxRecDepth 100000 in
theorem cd72 : lw_tbl[786]? = some (Cond.code (mNm me72) (mBy me72) (mMl me72) (mRt me72)) := (rfl)
set_option maxRecDepth 100000 in
theorem cd73 : lw_tbl[790]? = some (Cond.code (mNm me73) (mBy me73) (mMl me73) (mRt me73)) := (rfl)
set_option maxRecDepth 100000 in
theorem cd74 : lw_tbl[794]? = some (Cond.code (mNm me74) (mBy me74) (mMl me74) (mRt me74)) := (rfl)
set_option maxRecDepth 100000 in
theorem cd75 : lw_tbl[797]? = some (Cond.code (mNm me75) (mBy me75) (mMl me75) (mRt me75)) := (rfl)
set_option maxRecDepth 100000 in
theorem cd76 : lw_tbl[801]? = some (Cond.code (mNm me76) (mBy me76) (mMl me76) (mRt me76)) := (rfl)
set_option maxRecDepth 100000 in
theorem cd77 : lw_tbl[805]? = some (Cond.code (mNm me77) (mBy me77) (mMl me77) (mRt me77)) := (rfl)
set_option maxRecDepth 100000 in
theorem cd78 : lw_tbl[808]? = some (Cond.code (mNm me78) (mBy me78) (mMl me78) (mRt me78)) := (rfl)
set_option maxRecDepth 100000 in
theorem cd79 : lw_tbl[812]? = some (Cond.code (mNm me79) (mBy me79) (mMl me79) (mRt me79)) := (rfl)
set_option maxRecDepth 100000 in
theorem cd80 : lw_tbl[820]? = some (Cond.code (mNm me80) (mBy me80) (mMl me80) (mRt me80)) := (rfl)
set_option maxRecDepth 100000 in
theorem cd81 : lw_tbl[824]? = some (Cond.code (mNm me81) (mBy me81) (mMl me81) (mRt me81)) := (rfl)
set_option maxRecDepth 100000 in
theorem cd82 : lw_tbl[831]? = some (Cond.code (mNm me82) (mBy me82) (mMl me82) (mRt me82)) := (rfl)
set_option maxRecDepth 100000 in
theorem cd83 : lw_tbl[835]? = some (Cond.code (mNm me83) (mBy me83) (mMl me83) (mRt me83)) := (rfl)
set_option maxRecDepth 100000 in
theorem cd84 : lw_tbl[838]? = some (Cond.code (mNm me84) (mBy me84) (mMl me84) (mRt me84)) := (rfl)
set_option maxRecDepth 100000 in
theorem cd85 : lw_tbl[842]? = some (Cond.code (mNm me85) (mBy me85) (mMl me85) (mRt me85)) := (rfl)
set_option maxRecDepth 100000 in
theorem cd86 : lw_tbl[845]? = some (Cond.code (mNm me86) (mBy me86) (mMl me86) (mRt me86)) := (rfl)
set_option maxRecDepth 100000 in
theorem cd87 : lw_tbl[850]? = some (Cond.code (mNm me87) (mBy me87) (mMl me87) (mRt me87)) := (rfl)
set_option maxRecDepth 100000 in
theorem cd88 : lw_tbl[854]? = some (Cond.code (mNm me88) (mBy me88) (mMl me88) (mRt me88)) := (rfl)
set_option maxRecDepth 100000 in
theorem cd89 : lw_tbl[860]? = some (Cond.code (mNm me89) (mBy me89) (mMl me89) (mRt me89)) := (rfl)
set_option maxRecDepth 100000 in
theorem cd90 : lw_tbl[864]? = some (Cond.code (mNm me90) (mBy me90) (mMl me90) (mRt me90)) := (rfl)
set_option maxRecDepth 100000 in
theorem cd91 : lw_tbl[868]? = some (Cond.code (mNm me91) (mBy me91) (mMl me91) (mRt me91)) := (rfl)
set_option maxRecDepth 100000 in
theorem cd92 : lw_tbl[873]? = some (Cond.code (mNm me92) (mBy me92) (mMl me92) (mRt me92)) := (rfl)
set_option maxRecDepth 100000 in
theorem cd93 : lw_tbl[880]? = some (Cond.code (mNm me93) (mBy me93) (mMl me93) (mRt me93)) := (rfl)
set_option maxRecDepth 100000 in
theorem cd94 : lw_tbl[884]? = some (Cond.code (mNm me94) (mBy me94) (mMl me94) (mRt me94)) := (rfl)
set_option maxRecDepth 100000 in
theorem cd95 : lw_tbl[888]? = some (Cond.code (mNm me95) (mBy me95) (mMl me95) (mRt me95)) := (rfl)
set_option maxRecDepth 100000 in
theorem cd96 : lw_tbl[892]? = some (Cond.code (mNm me96) (mBy me96) (mMl me96) (mRt me96)) := (rfl)
set_option maxRecDepth 100000 in
theorem cd97 : lw_tbl[896]? = some (Cond.code (mNm me97) (mBy me97) (mMl me97) (mRt me97)) := (rfl)
set_option maxRecDepth 100000 in
theorem cd98 : lw_tbl[900]? = some (Cond.code (mNm me98) (mBy me98) (mMl me98) (mRt me98)) := (rfl)
set_option maxRecDepth 100000 in
theorem cd99 : lw_tbl[904]? = some (Cond.code (mNm me99) (mBy me99) (mMl me99) (mRt me99)) := (rfl)
set_option maxRecDepth 100000 in
theorem cd100 : lw_tbl[908]? = some (Cond.code (mNm me100) (mBy me100) (mMl me100) (mRt me100)) := (rfl)
set_option maxRecDepth 100000 in
theorem cd101 : lw_tbl[912]? = some (Cond.code (mNm me101) (mBy me101) (mMl me101) (mRt me101)) := (rfl)
set_option maxRecDepth 100000 in
theorem cd102 : lw_tbl[916]? = some (Cond.code (mNm me102) (mBy me102) (mMl me102) (mRt me102)) := (rfl)
set_option maxRecDepth 100000 in
theorem cd103 : lw_tbl[921]? = some (Cond.code (mNm me103) (mBy me103) (mMl me103) (mRt me103)) := (rfl)
set_option maxRecDepth 100000 in
theorem cd104 : lw_tbl[959]? = some (Cond.code (mNm me104) (mBy me104) (mMl me104) (mRt me104)) := (rfl)
set_option maxRecDepth 100000 in
theorem cd105 : lw_tbl[963]? = some (Cond.code (mNm me105) (mBy me105) (mMl me105) (mRt me105)) := (rfl)
set_option maxRecDepth 100000 in
theorem cd106 : lw_tbl[967]? = some (Cond.code (mNm me106) (mBy me106) (mMl me106) (mRt me106)) := (rfl)
set_option maxRecDepth 100000 in
theorem cd107 : lw_tbl[972]? = some (Cond.code (mNm me107) (mBy me107) (mMl me107) (mRt me107)) := (rfl)
set_option maxRecDepth 100000 in
theorem cd108 : lw_tbl[979]? = some (Cond.code (mNm me108) (mBy me108) (mMl me108) (mRt me108)) := (rfl)
set_option maxRecDepth 100000 in
theorem cd109 : lw_tbl[983]? = some (Cond.code (mNm me109) (mBy me109) (mMl me109) (mRt me109)) := (rfl)
set_option maxRecDepth 100000 in
theorem cd110 : lw_tbl[987]? = some (Cond.code (mNm me110) (mBy me110) (mMl me110) (mRt me110)) := (rfl)
set_option maxRecDepth 100000 in
theorem cd111 : lw_tbl[991]? = some (Cond.code (mNm me111) (mBy me111) (mMl me111) (mRt me111)) := (rfl)
set_option maxRecDepth 100000 in
theorem cd112 : lw_tbl[995]? = some (Cond.code (mNm me112) (mBy me112) (mMl me112) (mRt me112)) := (rfl)
set_option maxRecDepth 100000 in
theorem cd113 : lw_tbl[999]? = some (Cond.code (mNm me113) (mBy me113) (mMl me113) (mRt me113)) := (rfl)
set_option maxRecDepth 100000 in
theorem cd114 : lw_tbl[1003]? = some (Cond.code (mNm me114) (mBy me114) (mMl me114) (mRt me114)) := (rfl)
set_option maxRecDepth 100000 in
theorem cd115 : lw_tbl[1007]? = some (Cond.code (mNm me115) (mBy me115) (mMl me115) (mRt me115)) := (rfl)
set_option maxRecDepth 100000 in
theorem cd116 : lw_tbl[1011]? = some (Cond.code (mNm me116) (mBy me116) (mMl me116) (mRt me116)) := (rfl)
set_option maxRecDepth 100000 in
theorem cd117 : lw_tbl[1015]? = some (Cond.code (mNm me117) (mBy me117) (mMl me117) (mRt me117)) := (rfl)
set_option maxRecDepth 100000 in
theorem cd118 : lw_tbl[1019]? = some (Cond.code (mNm me118) (mBy me118) (mMl me118) (mRt me118)) := (rfl)
set_option maxRecDepth 100000 in
theorem cd119 : lw_tbl[1023]? = some (Cond.code (mNm me119) (mBy me119) (mMl me119) (mRt me119)) := (rfl)
set_option maxRecDepth 100000 in
theorem cd120 : lw_tbl[1027]? = some (Cond.code (mNm me120) (mBy me120) (mMl me120) (mRt me120)) := (rfl)
set_option maxRecDepth 100000 in
theorem cd121 : lw_tbl[1031]? = some (Cond.code (mNm me121) (mBy me121) (mMl me121) (mRt me121)) := (rfl)
set_option maxRecDepth 100000 in
theorem cd122 : lw_tbl[1035]? = some (Cond.code (mNm me122) (mBy me122) (mMl me122) (mRt me122)) := (rfl)
set_option maxRecDepth 100000 in
theorem cd123 : lw_tbl[1039]? = some (Cond.code (mNm me123) (mBy me123) (mMl me123) (mRt me123)) := (rfl)
set_option maxRecDepth 100000 in
theorem cd124 : lw_tbl[1043]? = some (Cond.code (mNm me124) (mBy me124) (mMl me124) (mRt me124)) := (rfl)
set_option maxRecDepth 100000 in
theorem cd125 : lw_tbl[1048]? = some (Cond.code (mNm me125) (mBy me125) (mMl me125) (mRt me125)) := (rfl)
set_option maxRecDepth 100000 in
theorem cd126 : lw_tbl[1053]? = some (Cond.code (mNm me126) (mBy me126) (mMl me126) (mRt me126)) := (rfl)
set_option maxRecDepth 100000 in
theorem cd127 : lw_tbl[1060]? = some (Cond.code (mNm me127) (mBy me127) (mMl me127) (mRt me127)) := (rfl)
set_option maxRecDepth 100000 in
theorem cd128 : lw_tbl[1068]? = some (Cond.code (mNm me128) (mBy me128) (mMl me128) (mRt me128)) := (rfl)
set_option maxRecDepth 100000 in
theorem cd129 : lw_tbl[1072]? = some (Cond.code (mNm me129) (mBy me129) (mMl me129) (mRt me129)) := (rfl)
set_option maxRecDepth 100000 in
theorem cd130 : lw_tbl[1076]? = some (Cond.code (mNm me130) (mBy me130) (mMl me130) (mRt me130)) := (rfl)
set_option maxRecDepth 100000 in
theorem cd131 : lw_tbl[1080]? = some (Cond.code (mNm me131) (mBy me131) (mMl me131) (mRt me131)) := (rfl)
set_option maxRecDepth 100000 in
theorem cd132 : lw_tbl[1083]? = some (Cond.code (mNm me132) (mBy me132) (mMl me132) (mRt me132)) := (rfl)
set_option maxRecDepth 100000 in
theorem cd133 : lw_tbl[1088]? = some (Cond.code (mNm me133) (mBy me133) (mMl me133) (mRt me133)) := (rfl)
set_option maxRecDepth 100000 in
theorem cd134 : lw_tbl[1092]? = some (Cond.code (mNm me134) (mBy me134) (mMl me134) (mRt me134)) := (rfl)
set_option maxRecDepth 100000 in
theorem cd135 : lw_tbl[1096]? = some (Cond.code (mNm me135) (mBy me135) (mMl me135) (mRt me135)) := (rfl)
set_option maxRecDepth 100000 in
theorem cd136 : lw_tbl[1101]? = some (Cond.code (mNm me136) (mBy me136) (mMl me136) (mRt me136)) := (rfl)
set_option maxRecDepth 100000 in
theorem cd137 : lw_tbl[1107]? = some (Cond.code (mNm me137) (mBy me137) (mMl me137) (mRt me137)) := (rfl)
set_option maxRecDepth 100000 in
theorem cd138 : lw_tbl[1112]? = some (Cond.code (mNm me138) (mBy me138) (mMl me138) (mRt me138)) := (rfl)
set_option maxRecDepth 100000 in
theorem cd139 : lw_tbl[1117]? = some (Cond.code (mNm me139) (mBy me139) (mMl me139) (mRt me139)) := (rfl)
set_option maxRecDepth 100000 in
theorem cd140 : lw_tbl[1123]? = some (Cond.code (mNm me140) (mBy me140) (mMl me140) (mRt me140)) := (rfl)
set_option maxRecDepth 100000 in
theorem cd141 : lw_tbl[1127]? = some (Cond.code (mNm me141) (mBy me141) (mMl me141) (mRt me141)) := (rfl)
set_option maxRecDepth 100000 in
theorem cd142 : lw_tbl[1131]? = some (Cond.code (mNm me142) (mBy me142) (mMl me142) (mRt me142)) := (rfl)
set_option maxRecDepth 100000 in
theorem cd143 : lw_tbl[1145]? = some (Cond.code (mNm me143) (mBy me143) (mMl me143) (mRt me143)) := (rfl)
set_option maxRecDepth 100000 in
theorem cd144 : lw_tbl[1224]? = some (Cond.code (mNm me144) (mBy me144) (mMl me144) (mRt me144)) := (rfl)
set_option maxRecDepth 100000 in
theorem cd145 : lw_tbl[1227]? = some (Cond.code (mNm me145) (mBy me145) (mMl me145) (mRt me145)) := (rfl)
set_option maxRecDepth 100000 in
theorem cd146 : lw_tbl[1231]? = some (Cond.code (mNm me146) (mBy me146) (mMl me146) (mRt me146)) := (rfl)
set_option maxRecDepth 100000 in
theorem cd147 : lw_tbl[1234]? = some (Cond.code (mNm me147) (mBy me147) (mMl me147) (mRt me147)) := (rfl)
set_option maxRecDepth 100000 in
theorem cd148 : lw_tbl[1238]? = some (Cond.code (mNm me148) (mBy me148) (mMl me148) (mRt me148)) := (rfl)
set_option maxRecDepth 100000 in
theorem cd149 : lw_tbl[1242]? = some (Cond.code (mNm me149) (mBy me149) (mMl me149) (mRt me149)) := (rfl)
set_option maxRecDepth 100000 in
theorem cd150 : lw_tbl[1246]? = some (Cond.code (mNm me150) (mBy me150) (mMl me150) (mRt me150)) := (rfl)
set_option maxRecDepth 100000 in
theorem cd151 : lw_tbl[1250]? = some (Cond.code (mNm me151) (mBy me151) (mMl me151) (mRt me151)) := (rfl)
set_option maxRecDepth 100000 in
theorem cd152 : lw_tbl[1254]? = some (Cond.code (mNm me152) (mBy me152) (mMl me152) (mRt me152)) := (rfl)
set_option maxRecDepth 100000 in
theorem cd153 : lw_tbl[1259]? = some (Cond.code (mNm me153) (mBy me153) (mMl me153) (mRt me153)) := (rfl)
set_option maxRecDepth 100000 in
theorem cd154 : lw_tbl[1263]? = some (Cond.code (mNm me154) (mBy me154) (mMl me154) (mRt me154)) := (rfl)
set_option maxRecDepth 100000 in
theorem cd155 : lw_tbl[1267]? = some (Cond.code (mNm me155) (mBy me155) (mMl me155) (mRt me155)) := (rfl)
set_option maxRecDepth 100000 in
theorem cd156 : lw_tbl[1273]? = some (Cond.code (mNm me156) (mBy me156) (mMl me156) (mRt me156)) := (rfl)
set_option maxRecDepth 100000 in
theorem cd157 : lw_tbl[1277]? = some (Cond.code (mNm me157) (mBy me157) (mMl me157) (mRt me157)) := (rfl)
set_option maxRecDepth 100000 in
theorem cd158 : lw_tbl[1281]? = some (Cond.code (mNm me158) (mBy me158) (mMl me158) (mRt me158)) := (rfl)
set_option maxRecDepth 100000 in
theorem cd159 : lw_tbl[1285]? = some (Cond.code (mNm me159) (mBy me159) (mMl me159) (mRt me159)) := (rfl)
set_option maxRecDepth 100000 in
theorem cd160 : lw_tbl[1289]? = some (Cond.code (mNm me160) (mBy me160) (mMl me160) (mRt me160)) := (rfl)
set_option maxRecDepth 100000 in
theorem cd161 : lw_tbl[1293]? = some (Cond.code (mNm me161) (mBy me161) (mMl me161) (mRt me161)) := (rfl)
set_option maxRecDepth 100000 in
theorem cd162 : lw_tbl[1297]? = some (Cond.code (mNm me162) (mBy me162) (mMl me162) (mRt me162)) := (rfl)
set_option maxRecDepth 100000 in
theorem cd163 : lw_tbl[1300]? = some (Cond.code (mNm me163) (mBy me163) (mMl me163) (mRt me163)) := (rfl)
set_option maxRecDepth 100000 in
theorem cd164 : lw_tbl[1304]? = some (Cond.code (mNm me164) (mBy me164) (mMl me164) (mRt me164)) := (rfl)
set_option maxRecDepth 100000 in
theorem cd165 : lw_tbl[1307]? = some (Cond.code (mNm me165) (mBy me165) (mMl me165) (mRt me165)) := (rfl)
set_option maxRecDepth 100000 in
theorem cd166 : lw_tbl[1311]? = some (Cond.code (mNm me166) (mBy me166) (mMl me166) (mRt me166)) := (rfl)
set_option maxRecDepth 100000 in
theorem cd167 : lw_tbl[1315]? = some (Cond.code (mNm me167) (mBy me167) (mMl me167) (mRt me167)) := (rfl)
set_option maxRecDepth 100000 in
theorem cd168 : lw_tbl[1318]? = some (Cond.code (mNm me168) (mBy me168) (mMl me168) (mRt me168)) := (rfl)
set_option maxRecDepth 100000 in
theorem cd169 : lw_tbl[1322]? = some (Cond.code (mNm me169) (mBy me169) (mMl me169) (mRt me169)) := (rfl)
set_option maxRecDepth 100000 in
theorem cd170 : lw_tbl[1326]? = some (Cond.code (mNm me170) (mBy me170) (mMl me170) (mRt me170)) := (rfl)
set_option maxRecDepth 100000 in
theorem cd171 : lw_tbl[1330]? = some (Cond.code (mNm me171) (mBy me171) (mMl me171) (mRt me171)) := (rfl)
set_option maxRecDepth 100000 in
theorem cd172 : lw_tbl[1334]? = some (Cond.code (mNm me172) (mBy me172) (mMl me172) (mRt me172)) := (rfl)
set_option maxRecDepth 100000 in
theorem cd173 : lw_tbl[1338]? = some (Cond.code (mNm me173) (mBy me173) (mMl me173) (mRt me173)) := (rfl)
set_option maxRecDepth 100000 in
theorem cd174 : lw_tbl[1342]? = some (Cond.code (mNm me174) (mBy me174) (mMl me174) (mRt me174)) := (rfl)
set_option maxRecDepth 100000 in
theorem cd175 : lw_tbl[1346]? = some (Cond.code (mNm me175) (mBy me175) (mMl me175) (mRt me175)) := (rfl)
set_option maxRecDepth 100000 in
theorem cd176 : lw_tbl[1350]? = some (Cond.code (mNm me176) (mBy me176) (mMl me176) (mRt me176)) := (rfl)
set_option maxRecDepth 100000 in
theorem cd177 : lw_tbl[1354]? = some (Cond.code (mNm me177) (mBy me177) (mMl me177) (mRt me177)) := (rfl)
set_option maxRecDepth 100000 in
theorem cd178 : lw_tbl[1358]? = some (Cond.code (mNm me178) (mBy me178) (mMl me178) (mRt me178)) := (rfl)
set_option maxRecDepth 100000 in
theorem cd179 : lw_tbl[1362]? = some (Cond.code (mNm me179) (mBy me179) (mMl me179) (mRt me179)) := (rfl)
set_option maxRecDepth 100000 in
theorem cd180 : lw_tbl[1367]? = some (Cond.code (mNm me180) (mBy me180) (mMl me180) (mRt me180)) := (rfl)
set_option maxRecDepth 100000 in
theorem cd181 : lw_tbl[1371]? = some (Cond.code (mNm me181) (mBy me181) (mMl me181) (mRt me181)) := (rfl)
set_option maxRecDepth 100000 in
theorem cd182 : lw_tbl[1375]? = some (Cond.code (mNm me182) (mBy me182) (mMl me182) (mRt me182)) := (rfl)
set_option maxRecDepth 100000 in
theorem cd183 : lw_tbl[1379]? = some (Cond.code (mNm me183) (mBy me183) (mMl me183) (mRt me183)) := (rfl)
set_option maxRecDepth 100000 in
theorem cd184 : lw_tbl[1383]? = some (Cond.code (mNm me184) (mBy me184) (mMl me184) (mRt me184)) := (rfl)
set_option maxRecDepth 100000 in
theorem cd185 : lw_tbl[1387]? = some (Cond.code (mNm me185) (mBy me185) (mMl me185) (mRt me185)) := (rfl)
set_option maxRecDepth 100000 in
theorem cd186 : lw_tbl[1391]? = some (Cond.code (mNm me186) (mBy me186) (mMl me186) (mRt me186)) := (rfl)
set_option maxRecDepth 100000 in
theorem cd187 : lw_tbl[1395]? = some (Cond.code (mNm me187) (mBy me187) (mMl me187) (mRt me187)) := (rfl)
set_option maxRecDepth 100000 in
theorem cd188 : lw_tbl[1399]? = some (Cond.code (mNm me188) (mBy me188) (mMl me188) (mRt me188)) := (rfl)
set_option maxRecDepth 100000 in
theorem cd189 : lw_tbl[1403]? = some (Cond.code (mNm me189) (mBy me189) (mMl me189) (mRt me189)) := (rfl)
set_option maxRecDepth 100000 in
theorem cd190 : lw_tbl[1406]? = some (Cond.code (mNm me190) (mBy me190) (mMl me190) (mRt me190)) := (rfl)
set_option maxRecDepth 100000 in
theorem cd191 : lw_tbl[1415]? = some (Cond.code (mNm me191) (mBy me191) (mMl me191) (mRt me191)) := (rfl)
set_option maxRecDepth 100000 in
theorem cd192 : lw_tbl[1419]? = some (Cond.code (mNm me192) (mBy me192) (mMl me192) (mRt me192)) := (rfl)
set_option maxRecDepth 100000 in
theorem cd193 : lw_tbl[1423]? = some (Cond.code (mNm me193) (mBy me193) (mMl me193) (mRt me193)) := (rfl)
set_option maxRecDepth 100000 in
theorem cd194 : lw_tbl[1426]? = some (Cond.code (mNm me194) (mBy me194) (mMl me194) (mRt me194)) := (rfl)
set_option maxRecDepth 100000 in
theorem cd195 : lw_tbl[1429]? = some (Cond.code (mNm me195) (mBy me195) (mMl me195) (mRt me195)) := (rfl)
set_option maxRecDepth 100000 in
theorem cd196 : lw_tbl[1434]? = some (Cond.code (mNm me196) (mBy me196) (mMl me196) (mRt me196)) := (rfl)
set_option maxRecDepth 100000 in
theorem cd197 : lw_tbl[1438]? = some (Cond.code (mNm me197) (mBy me197) (mMl me197) (mRt me197)) := (rfl)
set_option maxRecDepth 100000 in
theorem cd198 : lw_tbl[1443]? = some (Cond.code (mNm me198) (mBy me198) (mMl me198) (mRt me198)) := (rfl)
set_option maxRecDepth 100000 in
theorem cd199 : lw_tbl[1447]? = some (Cond.code (mNm me199) (mBy me199) (mMl me199) (mRt me199)) := (rfl)
set_option maxRecDepth 100000 in
theorem cd200 : lw_tbl[1451]? = some (Cond.code (mNm me200) (mBy me200) (mMl me200) (mRt me200)) := (rfl)
set_option maxRecDepth 100000 in
theorem cd201 : lw_tbl[1456]? = some (Cond.code (mNm me201) (mBy me201) (mMl me201) (mRt me201)) := (rfl)
set_option maxRecDepth 100000 in
theorem cd202 : lw_tbl[1460]? = some (Cond.code (mNm me202) (mBy me202) (mMl me202) (mRt me202)) := (rfl)
set_option maxRecDepth 100000 in
theorem cd203 : lw_tbl[1464]? = some (Cond.code (mNm me203) (mBy me203) (mMl me203) (mRt me203)) := (rfl)
set_option maxRecDepth 100000 in
theorem cd204 : lw_tbl[1468]? = some (Cond.code (mNm me204) (mBy me204) (mMl me204) (mRt me204)) := (rfl)
set_option maxRecDepth 100000 in
theorem cd205 : lw_tbl[1472]? = some (Cond.code (mNm me205) (mBy me205) (mMl me205) (mRt me205)) := (rfl)
set_option maxRecDepth 100000 in
theorem cd206 : lw_tbl[1476]? = some (Cond.code (mNm me206) (mBy me206) (mMl me206) (mRt me206)) := (rfl)
set_option maxRecDepth 100000 in
theorem cd207 : lw_tbl[1480]? = some (Cond.code (mNm me207) (mBy me207) (mMl me207) (mRt me207)) := (rfl)
set_option maxRecDepth 100000 in
theorem cd208 : lw_tbl[1484]? = some (Cond.code (mNm me208) (mBy me208) (mMl me208) (mRt me208)) := (rfl)
set_option maxRecDepth 100000 in
theorem cd209 : lw_tbl[1488]? = some (Cond.code (mNm me209) (mBy me209) (mMl me209) (mRt me209)) := (rfl)
set_option maxRecDepth 100000 in
theorem cd210 : lw_tbl[1492]? = some (Cond.code (mNm me210) (mBy me210) (mMl me210) (mRt me210)) := (rfl)
set_option maxRecDepth 100000 in
theorem cd211 : lw_tbl[1496]? = some (Cond.code (mNm me211) (mBy me211) (mMl me211) (mRt me211)) := (rfl)
set_option maxRecDepth 100000 in
theorem cd212 : lw_tbl[1500]? = some (Cond.code (mNm me212) (mBy me212) (mMl me212) (mRt me212)) := (rfl)
set_option maxRecDepth 100000 in
theorem cd213 : lw_tbl[1504]? = some (Cond.code (mNm me213) (mBy me213) (mMl me213) (mRt me213)) := (rfl)
set_option maxRecDepth 100000 in
theorem cd214 : lw_tbl[1508]? = some (Cond.code (mNm me214) (mBy me214) (mMl me214) (mRt me214)) := (rfl)
set_option maxRecDepth 100000 in
theorem cd215 : lw_tbl[1512]? = some (Cond.code (mNm me215) (mBy me215) (mMl me215) (mRt me215)) := (rfl)
set_option maxRecDepth 100000 in
theorem cd216 : lw_tbl[1516]? = some (Cond.code (mNm me216) (mBy me216) (mMl me216) (mRt me216)) := (rfl)
set_option maxRecDepth 100000 in
theorem cd217 : lw_tbl[1520]? = some (Cond.code (mNm me217) (mBy me217) (mMl me217) (mRt me217)) := (rfl)
set_option maxRecDepth 100000 in
theorem cd218 : lw_tbl[1524]? = some (Cond.code (mNm me218) (mBy me218) (mMl me218) (mRt me218)) := (rfl)
set_option maxRecDepth 100000 in
theorem cd219 : lw_tbl[1528]? = some (Cond.code (mNm me219) (mBy me219) (mMl me219) (mRt me219)) := (rfl)
set_option maxRecDepth 100000 in
theorem cd220 : lw_tbl[1532]? = some (Cond.code (mNm me220) (mBy me220) (mMl me220) (mRt me220)) := (rfl)
set_option maxRecDepth 100000 in
theorem cd221 : lw_tbl[1538]? = some (Cond.code (mNm me221) (mBy me221) (mMl me221) (mRt me221)) := (rfl)
set_option maxRecDepth 100000 in
theorem cd222 : lw_tbl[1542]? = some (Cond.code (mNm me222) (mBy me222) (mMl me222) (mRt me222)) := (rfl)
set_option maxRecDepth 100000 in
theorem cd223 : lw_tbl[1547]? = some (Cond.code (mNm me223) (mBy me223) (mMl me223) (mRt me223)) := (rfl)
set_option maxRecDepth 100000 in
theorem cd224 : lw_tbl[1551]? = some (Cond.code (mNm me224) (mBy me224) (mMl me224) (mRt me224)) := (rfl)
set_option maxRecDepth 100000 in
theorem cd225 : lw_tbl[1555]? = some (Cond.code (mNm me225) (mBy me225) (mMl me225) (mRt me225)) := (rfl)
set_option maxRecDepth 100000 in
theorem cd226 : lw_tbl[1559]? = some (Cond.code (mNm me226) (mBy me226) (mMl me226) (mRt me226)) := (rfl)
def cdP (q : ME) : Prop := lw_tbl[(mWs q).1]? = some (Cond.code (mNm q) (mBy q) (mMl q) (mRt q))
set_option maxRecDepth 100000 in
theorem ms_0 : ∀ q ∈ meths, cdP q := by
  show ∀ q ∈ [me0, me1, me2, me3, me4, me5, me6, me7, me8, me9, me10, me11, me12, me13, me14, me15, me16, me17, me18, me19, me20, me21, me22, me23, me24, me25, me26, me27, me28, me29, me30, me31, me32, me33, me34, me35, me36, me37, me38, me39, me40, me41, me42, me43, me44, me45, me46, me47, me48, me49, me50, me51, me52, me53, me54, me55, me56, me57, me58, me59, me60, me61, me62, me63, me64, me65, me66, me67, me68, me69, me70, me71, me72, me73, me74, me75, me76, me77, me78, me79, me80, me81, me82, me83, me84, me85, me86, me87, me88, me89, me90, me91, me92, me93, me94, me95, me96, me97, me98, me99, me100, me101, me102, me103, me104, me105, me106, me107, me108, me109, me110, me111, me112, me113, me114, me115, me116, me117, me118, me119, me120, me121, me122, me123, me124, me125, me126, me127, me128, me129, me130, me131, me132, me133, me134, me135, me136, me137, me138, me139, me140, me141, me142, me143, me144, me145, me146, me147, me148, me149, me150, me151, me152, me153, me154, me155, me156, me157, me158, me159, me160, me161, me162, me163, me164, me165, me166, me167, me168, me169, me170, me171, me172, me173, me174, me175, me176, me177, me178, me179, me180, me181, me182, me183, me184, me185, me186, me187, me188, me189, me190, me191, me192, me193, me194, me195, me196, me197, me198, me199, me200, me201, me202, me203, me204, me205, me206, me207, me208, me209, me210, me211, me212, me213, me214, me215, me216, me217, me218, me219, me220, me221, me222, me223, me224, me225, me226], cdP q
  exact List.forall_mem_cons.mpr ⟨cd0, List.forall_mem_cons.mpr ⟨cd1, List.forall_mem_cons.mpr ⟨cd2, List.forall_mem_cons.mpr ⟨cd3, List.forall_mem_cons.mpr ⟨cd4, List.forall_mem_cons.mpr ⟨cd5, List.forall_mem_cons.mpr ⟨cd6, List.forall_mem_cons.mpr ⟨cd7, List.forall_mem_cons.mpr ⟨cd8, List.forall_mem_cons.mpr ⟨cd9, List.forall_mem_cons.mpr ⟨cd10, List.forall_mem_cons.mpr ⟨cd11, List.forall_mem_cons.mpr ⟨cd12, List.forall_mem_cons.mpr ⟨cd13, List.forall_mem_cons.mpr ⟨cd14, List.forall_mem_cons.mpr ⟨cd15, List.forall_mem_cons.mpr ⟨cd16, List.forall_mem_cons.mpr ⟨cd17, List.forall_mem_cons.mpr ⟨cd18, List.forall_mem_cons.mpr ⟨cd19, List.forall_mem_cons.mpr ⟨cd20, List.forall_mem_cons.mpr ⟨cd21, List.forall_mem_cons.mpr ⟨cd22, List.forall_mem_cons.mpr ⟨cd23, List.forall_mem_cons.mpr ⟨cd24, List.forall_mem_cons.mpr ⟨cd25, List.forall_mem_cons.mpr ⟨cd26, List.forall_mem_cons.mpr ⟨cd27, List.forall_mem_cons.mpr ⟨cd28, List.forall_mem_cons.mpr ⟨cd29, List.forall_mem_cons.mpr ⟨cd30, List.forall_mem_cons.mpr ⟨cd31, List.forall_mem_cons.mpr ⟨cd32, List.forall_mem_cons.mpr ⟨cd33, List.forall_mem_cons.mpr ⟨cd34, List.forall_mem_cons.mpr ⟨cd35, List.forall_mem_cons.mpr ⟨cd36, List.forall_mem_cons.mpr ⟨cd37, List.forall_mem_cons.mpr ⟨cd38, List.forall_mem_cons.mpr ⟨cd39, List.forall_mem_cons.mpr ⟨cd40, List.forall_mem_cons.mpr ⟨cd41, List.forall_mem_cons.mpr ⟨cd42, List.forall_mem_cons.mpr ⟨cd43, List.forall_mem_cons.mpr ⟨cd44, List.forall_mem_cons.mpr ⟨cd45, List.forall_mem_cons.mpr ⟨cd46, List.forall_mem_cons.mpr ⟨cd47, List.forall_mem_cons.mpr ⟨cd48, List.forall_mem_cons.mpr ⟨cd49, List.forall_mem_cons.mpr ⟨cd50, List.forall_mem_cons.mpr ⟨cd51, List.forall_mem_cons.mpr ⟨cd52, List.forall_mem_cons.mpr ⟨cd53, List.forall_mem_cons.mpr ⟨cd54, List.forall_mem_cons.mpr ⟨cd55, List.forall_mem_cons.mpr ⟨cd56, List.forall_mem_cons.mpr ⟨cd57, List.forall_mem_cons.mpr ⟨cd58, List.forall_mem_cons.mpr ⟨cd59, List.forall_mem_cons.mpr ⟨cd60, List.forall_mem_cons.mpr ⟨cd61, List.forall_mem_cons.mpr ⟨cd62, List.forall_mem_cons.mpr ⟨cd63, List.forall_mem_cons.mpr ⟨cd64, List.forall_mem_cons.mpr ⟨cd65, List.forall_mem_cons.mpr ⟨cd66, List.forall_mem_cons.mpr ⟨cd67, List.forall_mem_cons.mpr ⟨cd68, List.forall_mem_cons.mpr ⟨cd69, List.forall_mem_cons.mpr ⟨cd70, List.forall_mem_cons.mpr ⟨cd71, List.forall_mem_cons.mpr ⟨cd72, List.forall_mem_cons.mpr ⟨cd73, List.forall_mem_cons.mpr ⟨cd74, List.forall_mem_cons.mpr ⟨cd75, List.forall_mem_cons.mpr ⟨cd76, List.forall_mem_cons.mpr ⟨cd77, List.forall_mem_cons.mpr ⟨cd78, List.forall_mem_cons.mpr ⟨cd79, List.forall_mem_cons.mpr ⟨cd80, List.forall_mem_cons.mpr ⟨cd81, List.forall_mem_cons.mpr ⟨cd82, List.forall_mem_cons.mpr ⟨cd83, List.forall_mem_cons.mpr ⟨cd84, List.forall_mem_cons.mpr ⟨cd85, List.forall_mem_cons.mpr ⟨cd86, List.forall_mem_cons.mpr ⟨cd87, List.forall_mem_cons.mpr ⟨cd88, List.forall_mem_cons.mpr ⟨cd89, List.forall_mem_cons.mpr ⟨cd90, List.forall_mem_cons.mpr ⟨cd91, List.forall_mem_cons.mpr ⟨cd92, List.forall_mem_cons.mpr ⟨cd93, List.forall_mem_cons.mpr ⟨cd94, List.forall_mem_cons.mpr ⟨cd95, List.forall_mem_cons.mpr ⟨cd96, List.forall_mem_cons.mpr ⟨cd97, List.forall_mem_cons.mpr ⟨cd98, List.forall_mem_cons.mpr ⟨cd99, List.forall_mem_cons.mpr ⟨cd100, List.forall_mem_cons.mpr ⟨cd101, List.forall_mem_cons.mpr ⟨cd102, List.forall_mem_cons.mpr ⟨cd103, List.forall_mem_cons.mpr ⟨cd104, List.forall_mem_cons.mpr ⟨cd105, List.forall_mem_cons.mpr ⟨cd106, List.forall_mem_cons.mpr ⟨cd107, List.forall_mem_cons.mpr ⟨cd108, List.forall_mem_cons.mpr ⟨cd109, List.forall_mem_cons.mpr ⟨cd110, List.forall_mem_cons.mpr ⟨cd111, List.forall_mem_cons.mpr ⟨cd112, List.forall_mem_cons.mpr ⟨cd113, List.forall_mem_cons.mpr ⟨cd114, List.forall_mem_cons.mpr ⟨cd115, List.forall_mem_cons.mpr ⟨cd116, List.forall_mem_cons.mpr ⟨cd117, List.forall_mem_cons.mpr ⟨cd118, List.forall_mem_cons.mpr ⟨cd119, List.forall_mem_cons.mpr ⟨cd120, List.forall_mem_cons.mpr ⟨cd121, List.forall_mem_cons.mpr ⟨cd122, List.forall_mem_cons.mpr ⟨cd123, List.forall_mem_cons.mpr ⟨cd124, List.forall_mem_cons.mpr ⟨cd125, List.forall_mem_cons.mpr ⟨cd126, List.forall_mem_cons.mpr ⟨cd127, List.forall_mem_cons.mpr ⟨cd128, List.forall_mem_cons.mpr ⟨cd129, List.forall_mem_cons.mpr ⟨cd130, List.forall_mem_cons.mpr ⟨cd131, List.forall_mem_cons.mpr ⟨cd132, List.forall_mem_cons.mpr ⟨cd133, List.forall_mem_cons.mpr ⟨cd134, List.forall_mem_cons.mpr ⟨cd135, List.forall_mem_cons.mpr ⟨cd136, List.forall_mem_cons.mpr ⟨cd137, List.forall_mem_cons.mpr ⟨cd138, List.forall_mem_cons.mpr ⟨cd139, List.forall_mem_cons.mpr ⟨cd140, List.forall_mem_cons.mpr ⟨cd141, List.forall_mem_cons.mpr ⟨cd142, List.forall_mem_cons.mpr ⟨cd143, List.forall_mem_cons.mpr ⟨cd144, List.forall_mem_cons.mpr ⟨cd145, List.forall_mem_cons.mpr ⟨cd146, List.forall_mem_cons.mpr ⟨cd147, List.forall_mem_cons.mpr ⟨cd148, List.forall_mem_cons.mpr ⟨cd149, List.forall_mem_cons.mpr ⟨cd150, List.forall_mem_cons.mpr ⟨cd151, List.forall_mem_cons.mpr ⟨cd152, List.forall_mem_cons.mpr ⟨cd153, List.forall_mem_cons.mpr ⟨cd154, List.forall_mem_cons.mpr ⟨cd155, List.forall_mem_cons.mpr ⟨cd156, List.forall_mem_cons.mpr ⟨cd157, List.forall_mem_cons.mpr ⟨cd158, List.forall_mem_cons.mpr ⟨cd159, List.forall_mem_cons.mpr ⟨cd160, List.forall_mem_cons.mpr ⟨cd161, List.forall_mem_cons.mpr ⟨cd162, List.forall_mem_cons.mpr ⟨cd163, List.forall_mem_cons.mpr ⟨cd164, List.forall_mem_cons.mpr ⟨cd165, List.forall_mem_cons.mpr ⟨cd166, List.forall_mem_cons.mpr ⟨cd167, List.forall_mem_cons.mpr ⟨cd168, List.forall_mem_cons.mpr ⟨cd169, List.forall_mem_cons.mpr ⟨cd170, List.forall_mem_cons.mpr ⟨cd171, List.forall_mem_cons.mpr ⟨cd172, List.forall_mem_cons.mpr ⟨cd173, List.forall_mem_cons.mpr ⟨cd174, List.forall_mem_cons.mpr ⟨cd175, List.forall_mem_cons.mpr ⟨cd176, List.forall_mem_cons.mpr ⟨cd177, List.forall_mem_cons.mpr ⟨cd178, List.forall_mem_cons.mpr ⟨cd179, List.forall_mem_cons.mpr ⟨cd180, List.forall_mem_cons.mpr ⟨cd181, List.forall_mem_cons.mpr ⟨cd182, List.forall_mem_cons.mpr ⟨cd183, List.forall_mem_cons.mpr ⟨cd184, List.forall_mem_cons.mpr ⟨cd185, List.forall_mem_cons.mpr ⟨cd186, List.forall_mem_cons.mpr ⟨cd187, List.forall_mem_cons.mpr ⟨cd188, List.forall_mem_cons.mpr ⟨cd189, List.forall_mem_cons.mpr ⟨cd190, List.forall_mem_cons.mpr ⟨cd191, List.forall_mem_cons.mpr ⟨cd192, List.forall_mem_cons.mpr ⟨cd193, List.forall_mem_cons.mpr ⟨cd194, List.forall_mem_cons.mpr ⟨cd195, List.forall_mem_cons.mpr ⟨cd196, List.forall_mem_cons.mpr ⟨cd197, List.forall_mem_cons.mpr ⟨cd198, List.forall_mem_cons.mpr ⟨cd199, List.forall_mem_cons.mpr ⟨cd200, List.forall_mem_cons.mpr ⟨cd201, List.forall_mem_cons.mpr ⟨cd202, List.forall_mem_cons.mpr ⟨cd203, List.forall_mem_cons.mpr ⟨cd204, List.forall_mem_cons.mpr ⟨cd205, List.forall_mem_cons.mpr ⟨cd206, List.forall_mem_cons.mpr ⟨cd207, List.forall_mem_cons.mpr ⟨cd208, List.forall_mem_cons.mpr ⟨cd209, List.forall_mem_cons.mpr ⟨cd210, List.forall_mem_cons.mpr ⟨cd211, List.forall_mem_cons.mpr ⟨cd212, List.forall_mem_cons.mpr ⟨cd213, List.forall_mem_cons.mpr ⟨cd214, List.forall_mem_cons.mpr ⟨cd215, List.forall_mem_cons.mpr ⟨cd216, List.forall_mem_cons.mpr ⟨cd217, List.forall_mem_cons.mpr ⟨cd218, List.forall_mem_cons.mpr ⟨cd219, List.forall_mem_cons.mpr ⟨cd220, List.forall_mem_cons.mpr ⟨cd221, List.forall_mem_cons.mpr ⟨cd222, List.forall_mem_cons.mpr ⟨cd223, List.forall_mem_cons.mpr ⟨cd224, List.forall_mem_cons.mpr ⟨cd225, List.forall_mem_cons.mpr ⟨cd226, fun _ h => absurd h List.not_mem_nil⟩⟩⟩⟩⟩⟩⟩⟩⟩⟩⟩⟩⟩⟩⟩⟩⟩⟩⟩⟩⟩⟩⟩⟩⟩⟩⟩⟩⟩⟩⟩⟩⟩⟩⟩⟩⟩⟩⟩⟩⟩⟩⟩⟩⟩⟩⟩⟩⟩⟩⟩⟩⟩⟩⟩⟩⟩⟩⟩⟩⟩⟩⟩⟩⟩⟩⟩⟩⟩⟩⟩⟩⟩⟩⟩⟩⟩⟩⟩⟩⟩⟩⟩⟩⟩⟩⟩⟩⟩⟩⟩⟩⟩⟩⟩⟩⟩⟩⟩⟩⟩⟩⟩⟩⟩⟩⟩⟩⟩⟩⟩⟩⟩⟩⟩⟩⟩⟩⟩⟩⟩⟩⟩⟩⟩⟩⟩⟩⟩⟩⟩⟩⟩⟩⟩⟩⟩⟩⟩⟩⟩⟩⟩⟩⟩⟩⟩⟩⟩⟩⟩⟩⟩⟩⟩⟩⟩⟩⟩⟩⟩⟩⟩⟩⟩⟩⟩⟩⟩⟩⟩⟩⟩⟩⟩⟩⟩⟩⟩⟩⟩⟩⟩⟩⟩⟩⟩⟩⟩⟩⟩⟩⟩⟩⟩⟩⟩⟩⟩⟩⟩⟩⟩⟩⟩⟩⟩⟩⟩⟩⟩⟩⟩⟩⟩⟩⟩⟩⟩⟩⟩⟩⟩⟩⟩⟩⟩
def meOk1 (q : ME) : Bool :=
  decide (lw_tbl[(mWs q).2.1]? = some (.initialized (mNm q).cls)) &&
  ((if mKd q = 2 then decide (lw_tbl[(mWs q).2.2.1]? = some (.static (mNm q))) else decide (lw_tbl[(mWs q).2.2.1]? = some (.instanceMethod (mNm q)))) &&
  ((if mKd q = 0 then decide (lw_tbl[(mWs q).2.2.2]? = some (.selects (mNm q).cls (mNm q) (mNm q))) else true) &&
  ((if mKd q = 1 then decide ((mNm q).name = "<init>") && decide (mRt q = none) else true) &&
  (decide ((mNm q).cls ≠ "java/lang/invoke/MethodHandle") && (decide ((mNm q).cls ≠ "java/lang/invoke/VarHandle") && (decide ((parseMethodDescriptor (mNm q).desc).map (fun d => d.parameters.length) = some (mNa q)) &&
  (decide (mMl q ≤ 80) && (plainFor (mNm q) && decide (ownN (mOw q) = (mNm q).cls)))))))))
theorem all_chunk {α : Type} {p : α → Bool} {l : List α} (n : Nat) (h1 : (l.take n).all p = true) (h2 : (l.drop n).all p = true) : l.all p = true := by
  rw [← List.take_append_drop n l, List.all_append, h1, h2]
  rfl
def mD0 : List ME := meths
set_option maxRecDepth 100000 in
theorem mA0 : (mD0.take 20).all meOk1 = true := by decide +kernel
def mD1 : List ME := mD0.drop 20
set_option maxRecDepth 100000 in
theorem mA1 : (mD1.take 20).all meOk1 = true := by decide +kernel
def mD2 : List ME := mD1.drop 20
set_option maxRecDepth 100000 in
theorem mA2 : (mD2.take 20).all meOk1 = true := by decide +kernel
def mD3 : List ME := mD2.drop 20
set_option maxRecDepth 100000 in
theorem mA3 : (mD3.take 20).all meOk1 = true := by decide +kernel
def mD4 : List ME := mD3.drop 20
set_option maxRecDepth 100000 in
theorem mA4 : (mD4.take 20).all meOk1 = true := by decide +kernel
def mD5 : List ME := mD4.drop 20
set_option maxRecDepth 100000 in
theorem mA5 : (mD5.take 20).all meOk1 = true := by decide +kernel
def mD6 : List ME := mD5.drop 20
set_option maxRecDepth 100000 in
theorem mA6 : (mD6.take 20).all meOk1 = true := by decide +kernel
def mD7 : List ME := mD6.drop 20
set_option maxRecDepth 100000 in
theorem mA7 : (mD7.take 20).all meOk1 = true := by decide +kernel
def mD8 : List ME := mD7.drop 20
set_option maxRecDepth 100000 in
theorem mA8 : (mD8.take 20).all meOk1 = true := by decide +kernel
def mD9 : List ME := mD8.drop 20
set_option maxRecDepth 100000 in
theorem mA9 : (mD9.take 20).all meOk1 = true := by decide +kernel
def mD10 : List ME := mD9.drop 20
set_option maxRecDepth 100000 in
theorem mA10 : (mD10.take 20).all meOk1 = true := by decide +kernel
def mD11 : List ME := mD10.drop 20
set_option maxRecDepth 100000 in
theorem mA11 : (mD11.take 20).all meOk1 = true := by decide +kernel
set_option maxRecDepth 100000 in
theorem mE : (mD11.drop 20).all meOk1 = true := by decide +kernel
theorem ms_1 : meths.all meOk1 = true := all_chunk 20 mA0 (all_chunk 20 mA1 (all_chunk 20 mA2 (all_chunk 20 mA3 (all_chunk 20 mA4 (all_chunk 20 mA5 (all_chunk 20 mA6 (all_chunk 20 mA7 (all_chunk 20 mA8 (all_chunk 20 mA9 (all_chunk 20 mA10 (all_chunk 20 mA11 (mE))))))))))))
set_option maxRecDepth 100000 in
theorem fields_ok : (List.range 13).all (fun ci => (List.range (clN ci)).all fun k => decide (lw_tbl[(fWs.getD ci []).getD k 0]? = some (u_lay (ownN ci) (clT ci) k)) && (decide (parseFieldDescriptor (clT ci k).2.2.1 = some (clY ci k)) && (List.range (clN ci)).all fun j => decide (j = k) || !decide ((clT ci j).2.1 = (clT ci k).2.1))) = true := by decide +kernel
set_option maxRecDepth 100000 in
theorem inst_ok : (List.range 13).all (fun ci => decide (lw_tbl[fIs.getD ci 0]? = some (.instantiable (ownN ci) (clN ci)))) = true := by decide +kernel
