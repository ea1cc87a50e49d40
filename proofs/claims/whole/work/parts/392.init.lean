-- needs: 391
/-! Both objects are made (the steps: gen/mkinit.py). -/
section
variable {Q : Gm → St → Prop}
set_option maxHeartbeats 4000000 in
set_option maxRecDepth 100000 in
theorem ini_C (z : Q zG82 zS176) : f_X10_init zG1 0 Q zS1 := by
  refine nm_p (e' := 1) (by decide +kernel) ?_
  refine nm_p (e' := zG2) (congrArg (gN zG1 4) (by decide +kernel)) ?_
  refine nm_p (e' := zS2) rfl ?_
  refine nm_p (e' := 2) (by decide +kernel) ?_
  refine nm_p (e' := zG3) (congrArg (gN zG2 11) (by decide +kernel)) ?_
  refine nm_p (e' := zS3) rfl ?_
  refine nm_p (e' := zS4) rfl ?_
  refine nm_p (e' := 3) (by decide +kernel) ?_
  refine nm_p (e' := zG4) (congrArg (gN zG3 11) (by decide +kernel)) ?_
  refine nm_p (e' := zS5) rfl ?_
  refine nm_p (e' := zS6) rfl ?_
  refine nm_p (e' := 4) (by decide +kernel) ?_
  refine nm_p (e' := zG5) (congrArg (gN zG4 11) (by decide +kernel)) ?_
  refine nm_p (e' := zS7) rfl ?_
  refine nm_p (e' := zS8) rfl ?_
  refine nm_p (e' := 5) (by decide +kernel) ?_
  refine nm_p (e' := zG6) (congrArg (gN zG5 11) (by decide +kernel)) ?_
  refine nm_p (e' := zS9) rfl ?_
  refine nm_p (e' := zS10) rfl ?_
  refine nm_p (e' := 6) (by decide +kernel) ?_
  refine nm_p (e' := zG7) (congrArg (gN zG6 11) (by decide +kernel)) ?_
  refine nm_p (e' := zS11) rfl ?_
  refine nm_p (e' := zS12) rfl ?_
  refine nm_p (e' := 7) (by decide +kernel) ?_
  refine nm_p (e' := zG8) (congrArg (gN zG7 11) (by decide +kernel)) ?_
  refine nm_p (e' := zS13) rfl ?_
  refine nm_p (e' := zS14) rfl ?_
  refine nm_p (e' := 8) (by decide +kernel) ?_
  refine nm_p (e' := zG9) (congrArg (gN zG8 15) (by decide +kernel)) ?_
  refine nm_p (e' := zS15) rfl ?_
  refine nm_p (e' := zS16) rfl ?_
  refine nm_p (e' := zS17) rfl ?_
  refine ex_y (i := 5) (by decide +kernel) ?_
  refine ⟨by unfold vp_in; decide +kernel, ?_⟩
  refine nm_p (e' := zS18) (congrArg (fun j => uI zS17 5 j 1) (by decide +kernel)) ?_
  refine nm_p (e' := zS19) rfl ?_
  refine nm_p (e' := 9) (by decide +kernel) ?_
  refine nm_p (e' := zG10) (congrArg (gN zG9 4) (by decide +kernel)) ?_
  refine nm_p (e' := zS20) rfl ?_
  refine nm_p (e' := 10) (by decide +kernel) ?_
  refine nm_p (e' := zG11) (congrArg (gN zG10 11) (by decide +kernel)) ?_
  refine nm_p (e' := zS21) rfl ?_
  refine nm_p (e' := zS22) rfl ?_
  refine nm_p (e' := 11) (by decide +kernel) ?_
  refine nm_p (e' := zG12) (congrArg (gN zG11 11) (by decide +kernel)) ?_
  refine nm_p (e' := zS23) rfl ?_
  refine nm_p (e' := zS24) rfl ?_
  refine nm_p (e' := 12) (by decide +kernel) ?_
  refine nm_p (e' := zG13) (congrArg (gN zG12 11) (by decide +kernel)) ?_
  refine nm_p (e' := zS25) rfl ?_
  refine nm_p (e' := zS26) rfl ?_
  refine nm_p (e' := 13) (by decide +kernel) ?_
  refine nm_p (e' := zG14) (congrArg (gN zG13 11) (by decide +kernel)) ?_
  refine nm_p (e' := zS27) rfl ?_
  refine nm_p (e' := zS28) rfl ?_
  refine nm_p (e' := 14) (by decide +kernel) ?_
  refine nm_p (e' := zG15) (congrArg (gN zG14 11) (by decide +kernel)) ?_
  refine nm_p (e' := zS29) rfl ?_
  refine nm_p (e' := zS30) rfl ?_
  refine nm_p (e' := 15) (by decide +kernel) ?_
  refine nm_p (e' := zG16) (congrArg (gN zG15 11) (by decide +kernel)) ?_
  refine nm_p (e' := zS31) rfl ?_
  refine nm_p (e' := zS32) rfl ?_
  refine nm_p (e' := 16) (by decide +kernel) ?_
  refine nm_p (e' := zG17) (congrArg (gN zG16 15) (by decide +kernel)) ?_
  refine nm_p (e' := zS33) rfl ?_
  refine nm_p (e' := zS34) rfl ?_
  refine nm_p (e' := zS35) rfl ?_
  refine ex_y (i := 13) (by decide +kernel) ?_
  refine ⟨by unfold vp_in; decide +kernel, ?_⟩
  refine nm_p (e' := zS36) (congrArg (fun j => uI zS35 13 j 1) (by decide +kernel)) ?_
  refine nm_p (e' := zS37) rfl ?_
  refine nm_p (e' := 17) (by decide +kernel) ?_
  refine nm_p (e' := zG18) (congrArg (gN zG17 14) (by decide +kernel)) ?_
  refine nm_p (e' := zS38) rfl ?_
  refine nm_p (e' := zS39) rfl ?_
  refine nm_p (e' := 18) (by decide +kernel) ?_
  refine nm_p (e' := zG19) (congrArg (gN zG18 8) (by decide +kernel)) ?_
  refine nm_p (e' := zS40) rfl ?_
  refine nm_p (e' := 19) (by decide +kernel) ?_
  refine nm_p (e' := zG20) (congrArg (gN zG19 11) (by decide +kernel)) ?_
  refine nm_p (e' := zS41) rfl ?_
  refine nm_p (e' := zS42) rfl ?_
  refine nm_p (e' := zS43) rfl ?_
  refine nm_p (e' := 20) (by decide +kernel) ?_
  refine nm_p (e' := zG21) (congrArg (gN zG20 2) (by decide +kernel)) ?_
  refine nm_p (e' := zS44) rfl ?_
  refine nm_p (e' := 21) (by decide +kernel) ?_
  refine nm_p (e' := zG22) (congrArg (gN zG21 11) (by decide +kernel)) ?_
  refine nm_p (e' := zS45) rfl ?_
  refine nm_p (e' := zS46) rfl ?_
  refine nm_p (e' := 22) (by decide +kernel) ?_
  refine nm_p (e' := zG23) (congrArg (gN zG22 6) (by decide +kernel)) ?_
  refine nm_p (e' := zS47) rfl ?_
  refine nm_p (e' := 23) (by decide +kernel) ?_
  refine nm_p (e' := zG24) (congrArg (gN zG23 12) (by decide +kernel)) ?_
  refine nm_p (e' := zS48) rfl ?_
  refine nm_p (e' := zS49) rfl ?_
  refine nm_p (e' := zS50) rfl ?_
  refine nm_p (e' := zS51) rfl ?_
  refine nm_p (e' := 24) (by decide +kernel) ?_
  refine nm_p (e' := zG25) (congrArg (gN zG24 1) (by decide +kernel)) ?_
  refine nm_p (e' := zS52) rfl ?_
  refine nm_p (e' := 25) (by decide +kernel) ?_
  refine nm_p (e' := zG26) (congrArg (gN zG25 2) (by decide +kernel)) ?_
  refine nm_p (e' := zS53) rfl ?_
  refine nm_p (e' := 26) (by decide +kernel) ?_
  refine nm_p (e' := zG27) (congrArg (gN zG26 11) (by decide +kernel)) ?_
  refine nm_p (e' := zS54) rfl ?_
  refine nm_p (e' := zS55) rfl ?_
  refine nm_p (e' := 27) (by decide +kernel) ?_
  refine nm_p (e' := zG28) (congrArg (gN zG27 6) (by decide +kernel)) ?_
  refine nm_p (e' := zS56) rfl ?_
  refine nm_p (e' := 28) (by decide +kernel) ?_
  refine nm_p (e' := zG29) (congrArg (gN zG28 12) (by decide +kernel)) ?_
  refine nm_p (e' := zS57) rfl ?_
  refine nm_p (e' := zS58) rfl ?_
  refine nm_p (e' := zS59) rfl ?_
  refine nm_p (e' := zS60) rfl ?_
  refine nm_p (e' := 29) (by decide +kernel) ?_
  refine nm_p (e' := zG30) (congrArg (gN zG29 11) (by decide +kernel)) ?_
  refine nm_p (e' := zS61) rfl ?_
  refine nm_p (e' := zS62) rfl ?_
  refine nm_p (e' := zS63) rfl ?_
  refine nm_p (e' := 30) (by decide +kernel) ?_
  refine nm_p (e' := zG31) (congrArg (gN zG30 0) (by decide +kernel)) ?_
  refine nm_p (e' := zS64) rfl ?_
  refine nm_p (e' := 31) (by decide +kernel) ?_
  refine nm_p (e' := zG32) (congrArg (gN zG31 4) (by decide +kernel)) ?_
  refine nm_p (e' := zS65) rfl ?_
  refine nm_p (e' := 32) (by decide +kernel) ?_
  refine nm_p (e' := zG33) (congrArg (gN zG32 11) (by decide +kernel)) ?_
  refine nm_p (e' := zS66) rfl ?_
  refine nm_p (e' := zS67) rfl ?_
  refine nm_p (e' := 33) (by decide +kernel) ?_
  refine nm_p (e' := zG34) (congrArg (gN zG33 11) (by decide +kernel)) ?_
  refine nm_p (e' := zS68) rfl ?_
  refine nm_p (e' := zS69) rfl ?_
  refine nm_p (e' := 34) (by decide +kernel) ?_
  refine nm_p (e' := zG35) (congrArg (gN zG34 11) (by decide +kernel)) ?_
  refine nm_p (e' := zS70) rfl ?_
  refine nm_p (e' := zS71) rfl ?_
  refine nm_p (e' := 35) (by decide +kernel) ?_
  refine nm_p (e' := zG36) (congrArg (gN zG35 11) (by decide +kernel)) ?_
  refine nm_p (e' := zS72) rfl ?_
  refine nm_p (e' := zS73) rfl ?_
  refine nm_p (e' := 36) (by decide +kernel) ?_
  refine nm_p (e' := zG37) (congrArg (gN zG36 11) (by decide +kernel)) ?_
  refine nm_p (e' := zS74) rfl ?_
  refine nm_p (e' := zS75) rfl ?_
  refine nm_p (e' := 37) (by decide +kernel) ?_
  refine nm_p (e' := zG38) (congrArg (gN zG37 11) (by decide +kernel)) ?_
  refine nm_p (e' := zS76) rfl ?_
  refine nm_p (e' := zS77) rfl ?_
  refine nm_p (e' := 38) (by decide +kernel) ?_
  refine nm_p (e' := zG39) (congrArg (gN zG38 15) (by decide +kernel)) ?_
  refine nm_p (e' := zS78) rfl ?_
  refine nm_p (e' := zS79) rfl ?_
  refine nm_p (e' := zS80) rfl ?_
  refine ex_y (i := 35) (by decide +kernel) ?_
  refine ⟨by unfold vp_in; decide +kernel, ?_⟩
  refine nm_p (e' := zS81) (congrArg (fun j => uI zS80 35 j 1) (by decide +kernel)) ?_
  refine nm_p (e' := zS82) rfl ?_
  refine nm_p (e' := 39) (by decide +kernel) ?_
  refine nm_p (e' := zG40) (congrArg (gN zG39 8) (by decide +kernel)) ?_
  refine nm_p (e' := zS83) rfl ?_
  refine nm_p (e' := 40) (by decide +kernel) ?_
  refine nm_p (e' := zG41) (congrArg (gN zG40 11) (by decide +kernel)) ?_
  refine nm_p (e' := zS84) rfl ?_
  refine nm_p (e' := zS85) rfl ?_
  refine nm_p (e' := zS86) rfl ?_
  refine nm_p (e' := 41) (by decide +kernel) ?_
  refine nm_p (e' := zG42) (congrArg (gN zG41 2) (by decide +kernel)) ?_
  refine nm_p (e' := zS87) rfl ?_
  refine nm_p (e' := 42) (by decide +kernel) ?_
  refine nm_p (e' := zG43) (congrArg (gN zG42 11) (by decide +kernel)) ?_
  refine nm_p (e' := zS88) rfl ?_
  refine nm_p (e' := zS89) rfl ?_
  refine nm_p (e' := 43) (by decide +kernel) ?_
  refine nm_p (e' := zG44) (congrArg (gN zG43 6) (by decide +kernel)) ?_
  refine nm_p (e' := zS90) rfl ?_
  refine nm_p (e' := 44) (by decide +kernel) ?_
  refine nm_p (e' := zG45) (congrArg (gN zG44 12) (by decide +kernel)) ?_
  refine nm_p (e' := zS91) rfl ?_
  refine nm_p (e' := zS92) rfl ?_
  refine nm_p (e' := zS93) rfl ?_
  refine nm_p (e' := zS94) rfl ?_
  refine nm_p (e' := 45) (by decide +kernel) ?_
  refine nm_p (e' := zG46) (congrArg (gN zG45 1) (by decide +kernel)) ?_
  refine nm_p (e' := zS95) rfl ?_
  refine nm_p (e' := 46) (by decide +kernel) ?_
  refine nm_p (e' := zG47) (congrArg (gN zG46 2) (by decide +kernel)) ?_
  refine nm_p (e' := zS96) rfl ?_
  refine nm_p (e' := 47) (by decide +kernel) ?_
  refine nm_p (e' := zG48) (congrArg (gN zG47 11) (by decide +kernel)) ?_
  refine nm_p (e' := zS97) rfl ?_
  refine nm_p (e' := zS98) rfl ?_
  refine nm_p (e' := 48) (by decide +kernel) ?_
  refine nm_p (e' := zG49) (congrArg (gN zG48 6) (by decide +kernel)) ?_
  refine nm_p (e' := zS99) rfl ?_
  refine nm_p (e' := 49) (by decide +kernel) ?_
  refine nm_p (e' := zG50) (congrArg (gN zG49 12) (by decide +kernel)) ?_
  refine nm_p (e' := zS100) rfl ?_
  refine nm_p (e' := zS101) rfl ?_
  refine nm_p (e' := zS102) rfl ?_
  refine nm_p (e' := zS103) rfl ?_
  refine nm_p (e' := 50) (by decide +kernel) ?_
  refine nm_p (e' := zG51) (congrArg (gN zG50 11) (by decide +kernel)) ?_
  refine nm_p (e' := zS104) rfl ?_
  refine nm_p (e' := zS105) rfl ?_
  refine nm_p (e' := zS106) rfl ?_
  refine nm_p (e' := 51) (by decide +kernel) ?_
  refine nm_p (e' := zG52) (congrArg (gN zG51 6) (by decide +kernel)) ?_
  refine nm_p (e' := zS107) rfl ?_
  refine nm_p (e' := 52) (by decide +kernel) ?_
  refine nm_p (e' := zG53) (congrArg (gN zG52 12) (by decide +kernel)) ?_
  refine nm_p (e' := zS108) rfl ?_
  refine nm_p (e' := zS109) rfl ?_
  refine nm_p (e' := zS110) rfl ?_
  refine nm_p (e' := 53) (by decide +kernel) ?_
  refine nm_p (e' := zG54) (congrArg (gN zG53 11) (by decide +kernel)) ?_
  refine nm_p (e' := zS111) rfl ?_
  refine nm_p (e' := zS112) rfl ?_
  refine nm_p (e' := zS113) rfl ?_
  refine nm_p (e' := 54) (by decide +kernel) ?_
  refine nm_p (e' := zG55) (congrArg (gN zG54 3) (by decide +kernel)) ?_
  refine nm_p (e' := zS114) rfl ?_
  refine nm_p (e' := 55) (by decide +kernel) ?_
  refine nm_p (e' := zG56) (congrArg (gN zG55 2) (by decide +kernel)) ?_
  refine nm_p (e' := zS115) rfl ?_
  refine nm_p (e' := 56) (by decide +kernel) ?_
  refine nm_p (e' := zG57) (congrArg (gN zG56 11) (by decide +kernel)) ?_
  refine nm_p (e' := zS116) rfl ?_
  refine nm_p (e' := zS117) rfl ?_
  refine nm_p (e' := 57) (by decide +kernel) ?_
  refine nm_p (e' := zG58) (congrArg (gN zG57 6) (by decide +kernel)) ?_
  refine nm_p (e' := zS118) rfl ?_
  refine nm_p (e' := 58) (by decide +kernel) ?_
  refine nm_p (e' := zG59) (congrArg (gN zG58 12) (by decide +kernel)) ?_
  refine nm_p (e' := zS119) rfl ?_
  refine nm_p (e' := zS120) rfl ?_
  refine nm_p (e' := zS121) rfl ?_
  refine nm_p (e' := zS122) rfl ?_
  refine nm_p (e' := 59) (by decide +kernel) ?_
  refine nm_p (e' := zG60) (congrArg (gN zG59 11) (by decide +kernel)) ?_
  refine nm_p (e' := zS123) rfl ?_
  refine nm_p (e' := zS124) rfl ?_
  refine nm_p (e' := 60) (by decide +kernel) ?_
  refine nm_p (e' := zG61) (congrArg (gN zG60 11) (by decide +kernel)) ?_
  refine nm_p (e' := zS125) rfl ?_
  refine nm_p (e' := zS126) rfl ?_
  refine nm_p (e' := 61) (by decide +kernel) ?_
  refine nm_p (e' := zG62) (congrArg (gN zG61 11) (by decide +kernel)) ?_
  refine nm_p (e' := zS127) rfl ?_
  refine nm_p (e' := zS128) rfl ?_
  refine nm_p (e' := 62) (by decide +kernel) ?_
  refine nm_p (e' := zG63) (congrArg (gN zG62 11) (by decide +kernel)) ?_
  refine nm_p (e' := zS129) rfl ?_
  refine nm_p (e' := zS130) rfl ?_
  refine nm_p (e' := 63) (by decide +kernel) ?_
  refine nm_p (e' := zG64) (congrArg (gN zG63 11) (by decide +kernel)) ?_
  refine nm_p (e' := zS131) rfl ?_
  refine nm_p (e' := zS132) rfl ?_
  refine nm_p (e' := 64) (by decide +kernel) ?_
  refine nm_p (e' := zG65) (congrArg (gN zG64 11) (by decide +kernel)) ?_
  refine nm_p (e' := zS133) rfl ?_
  refine nm_p (e' := zS134) rfl ?_
  refine nm_p (e' := 65) (by decide +kernel) ?_
  refine nm_p (e' := zG66) (congrArg (gN zG65 11) (by decide +kernel)) ?_
  refine nm_p (e' := zS135) rfl ?_
  refine nm_p (e' := zS136) rfl ?_
  refine nm_p (e' := 66) (by decide +kernel) ?_
  refine nm_p (e' := zG67) (congrArg (gN zG66 11) (by decide +kernel)) ?_
  refine nm_p (e' := zS137) rfl ?_
  refine nm_p (e' := zS138) rfl ?_
  refine nm_p (e' := 67) (by decide +kernel) ?_
  refine nm_p (e' := zG68) rfl ?_
  refine nm_p (e' := zS139) rfl ?_
  refine nm_p (e' := zS140) rfl ?_
  refine nm_p (e' := 73) (by decide +kernel) ?_
  refine nm_p (e' := zG69) (congrArg (gN zG68 11) (by decide +kernel)) ?_
  refine nm_p (e' := zS141) rfl ?_
  refine ⟨by unfold vp_in; decide +kernel, ?_⟩
  refine nm_p (e' := zS142) (congrArg (fun j => uI zS141 73 j (-1)) (by decide +kernel)) ?_
  refine ⟨by unfold vp_in; decide +kernel, ?_⟩
  refine nm_p (e' := zS143) (congrArg (fun j => uI zS142 73 j (-1)) (by decide +kernel)) ?_
  refine ⟨by unfold vp_in; decide +kernel, ?_⟩
  refine nm_p (e' := zS144) (congrArg (fun j => uI zS143 73 j (-1)) (by decide +kernel)) ?_
  refine ⟨by unfold vp_in; decide +kernel, ?_⟩
  refine nm_p (e' := zS145) (congrArg (fun j => uI zS144 73 j (-1)) (by decide +kernel)) ?_
  refine ⟨by unfold vp_in; decide +kernel, ?_⟩
  refine nm_p (e' := zS146) (congrArg (fun j => uI zS145 73 j (-1)) (by decide +kernel)) ?_
  refine nm_p (e' := zS147) rfl ?_
  refine nm_p (e' := 74) (by decide +kernel) ?_
  refine nm_p (e' := zG70) (congrArg (gN zG69 12) (by decide +kernel)) ?_
  refine nm_p (e' := zS148) rfl ?_
  refine nm_p (e' := zS149) rfl ?_
  refine nm_p (e' := zS150) rfl ?_
  refine nm_p (e' := 75) (by decide +kernel) ?_
  refine nm_p (e' := zG71) (congrArg (gN zG70 5) (by decide +kernel)) ?_
  refine nm_p (e' := zS151) rfl ?_
  refine nm_p (e' := 76) (by decide +kernel) ?_
  refine nm_p (e' := zG72) (congrArg (gN zG71 11) (by decide +kernel)) ?_
  refine nm_p (e' := zS152) rfl ?_
  refine nm_p (e' := zS153) rfl ?_
  refine nm_p (e' := 77) (by decide +kernel) ?_
  refine nm_p (e' := zG73) (congrArg (gN zG72 11) (by decide +kernel)) ?_
  refine nm_p (e' := zS154) rfl ?_
  refine nm_p (e' := zS155) rfl ?_
  refine nm_p (e' := 78) (by decide +kernel) ?_
  refine nm_p (e' := zG74) (congrArg (gN zG73 11) (by decide +kernel)) ?_
  refine nm_p (e' := zS156) rfl ?_
  refine nm_p (e' := zS157) rfl ?_
  refine nm_p (e' := 79) (by decide +kernel) ?_
  refine nm_p (e' := zG75) (congrArg (gN zG74 11) (by decide +kernel)) ?_
  refine nm_p (e' := zS158) rfl ?_
  refine nm_p (e' := zS159) rfl ?_
  refine nm_p (e' := zS160) rfl ?_
  refine nm_p (e' := 80) (by decide +kernel) ?_
  refine nm_p (e' := zG76) (congrArg (gN zG75 7) (by decide +kernel)) ?_
  refine nm_p (e' := zS161) rfl ?_
  refine ⟨by decide +kernel, ?_⟩
  refine ⟨by decide +kernel, ?_⟩
  refine nm_p (e' := 81) (by decide +kernel) ?_
  refine nm_p (e' := zG77) (congrArg (gN zG76 11) (by decide +kernel)) ?_
  refine nm_p (e' := zS162) rfl ?_
  refine nm_p (e' := zS163) rfl ?_
  refine ⟨by decide +kernel, ?_⟩
  refine ⟨by decide +kernel, ?_⟩
  refine nm_p (e' := 82) (by decide +kernel) ?_
  refine nm_p (e' := zG78) (congrArg (gN zG77 11) (by decide +kernel)) ?_
  refine nm_p (e' := zS164) rfl ?_
  refine nm_p (e' := zS165) rfl ?_
  refine ⟨by decide +kernel, ?_⟩
  refine ⟨by decide +kernel, ?_⟩
  refine nm_p (e' := 83) (by decide +kernel) ?_
  refine nm_p (e' := zG79) (congrArg (gN zG78 11) (by decide +kernel)) ?_
  refine nm_p (e' := zS166) rfl ?_
  refine nm_p (e' := zS167) rfl ?_
  refine ⟨by decide +kernel, ?_⟩
  refine ⟨by decide +kernel, ?_⟩
  refine nm_p (e' := 84) (by decide +kernel) ?_
  refine nm_p (e' := zG80) (congrArg (gN zG79 11) (by decide +kernel)) ?_
  refine nm_p (e' := zS168) rfl ?_
  refine nm_p (e' := zS169) rfl ?_
  refine ⟨by decide +kernel, ?_⟩
  refine ⟨by decide +kernel, ?_⟩
  refine nm_p (e' := 85) (by decide +kernel) ?_
  refine nm_p (e' := zG81) (congrArg (gN zG80 11) (by decide +kernel)) ?_
  refine nm_p (e' := zS170) rfl ?_
  refine nm_p (e' := zS171) rfl ?_
  refine nm_p (e' := zS172) rfl ?_
  refine nm_p (e' := zS173) rfl ?_
  refine nm_p (e' := 86) (by decide +kernel) ?_
  refine nm_p (e' := zG82) (congrArg (gN zG81 11) (by decide +kernel)) ?_
  refine nm_p (e' := zS174) rfl ?_
  refine nm_p (e' := zS175) rfl ?_
  refine nm_p (e' := zS176) rfl ?_
  exact z
set_option maxHeartbeats 4000000 in
set_option maxRecDepth 100000 in
theorem ini_R (z : f_X11_init_462 zG116 87 Q 0 zS273) : f_X11_init zG83 87 Q zS177 := by
  refine nm_p (e' := 88) (by decide +kernel) ?_
  refine nm_p (e' := zG84) (congrArg (gN zG83 11) (by decide +kernel)) ?_
  refine nm_p (e' := zS178) rfl ?_
  refine nm_p (e' := zS179) rfl ?_
  refine nm_p (e' := 89) (by decide +kernel) ?_
  refine nm_p (e' := zG85) (congrArg (gN zG84 11) (by decide +kernel)) ?_
  refine nm_p (e' := zS180) rfl ?_
  refine nm_p (e' := zS181) rfl ?_
  refine nm_p (e' := 90) (by decide +kernel) ?_
  refine nm_p (e' := zG86) (congrArg (gN zG85 11) (by decide +kernel)) ?_
  refine nm_p (e' := zS182) rfl ?_
  refine nm_p (e' := zS183) rfl ?_
  refine nm_p (e' := 91) (by decide +kernel) ?_
  refine nm_p (e' := zG87) (congrArg (gN zG86 11) (by decide +kernel)) ?_
  refine nm_p (e' := zS184) rfl ?_
  refine nm_p (e' := zS185) rfl ?_
  refine nm_p (e' := 92) (by decide +kernel) ?_
  refine nm_p (e' := zG88) (congrArg (gN zG87 13) (by decide +kernel)) ?_
  refine nm_p (e' := zS186) rfl ?_
  refine nm_p (e' := zS187) rfl ?_
  refine nm_p (e' := 93) (by decide +kernel) ?_
  refine nm_p (e' := zG89) (congrArg (gN zG88 11) (by decide +kernel)) ?_
  refine nm_p (e' := zS188) rfl ?_
  refine nm_p (e' := zS189) rfl ?_
  refine nm_p (e' := 94) (by decide +kernel) ?_
  refine nm_p (e' := zG90) (congrArg (gN zG89 11) (by decide +kernel)) ?_
  refine nm_p (e' := zS190) rfl ?_
  refine nm_p (e' := zS191) rfl ?_
  refine nm_p (e' := 95) (by decide +kernel) ?_
  refine nm_p (e' := zG91) (congrArg (gN zG90 11) (by decide +kernel)) ?_
  refine nm_p (e' := zS192) rfl ?_
  refine nm_p (e' := zS193) rfl ?_
  refine nm_p (e' := 96) (by decide +kernel) ?_
  refine nm_p (e' := zG92) (congrArg (gN zG91 11) (by decide +kernel)) ?_
  refine nm_p (e' := zS194) rfl ?_
  refine nm_p (e' := zS195) rfl ?_
  refine nm_p (e' := 97) (by decide +kernel) ?_
  refine nm_p (e' := zG93) (congrArg (gN zG92 11) (by decide +kernel)) ?_
  refine nm_p (e' := zS196) rfl ?_
  refine nm_p (e' := zS197) rfl ?_
  refine nm_p (e' := zS198) rfl ?_
  refine nm_p (e' := 98) (by decide +kernel) ?_
  refine nm_p (e' := zG94) (congrArg (gN zG93 11) (by decide +kernel)) ?_
  refine nm_p (e' := zS199) rfl ?_
  refine nm_p (e' := zS200) rfl ?_
  refine nm_p (e' := 99) (by decide +kernel) ?_
  refine nm_p (e' := zG95) (congrArg (gN zG94 11) (by decide +kernel)) ?_
  refine nm_p (e' := zS201) rfl ?_
  refine nm_p (e' := zS202) rfl ?_
  refine nm_p (e' := 100) (by decide +kernel) ?_
  refine nm_p (e' := zG96) (congrArg (gN zG95 11) (by decide +kernel)) ?_
  refine nm_p (e' := zS203) rfl ?_
  refine nm_p (e' := zS204) rfl ?_
  refine nm_p (e' := 101) (by decide +kernel) ?_
  refine nm_p (e' := zG97) (congrArg (gN zG96 11) (by decide +kernel)) ?_
  refine nm_p (e' := zS205) rfl ?_
  refine nm_p (e' := zS206) rfl ?_
  refine nm_p (e' := 102) (by decide +kernel) ?_
  refine nm_p (e' := zG98) (congrArg (gN zG97 11) (by decide +kernel)) ?_
  refine nm_p (e' := zS207) rfl ?_
  refine nm_p (e' := zS208) rfl ?_
  refine nm_p (e' := 103) (by decide +kernel) ?_
  refine nm_p (e' := zG99) (congrArg (gN zG98 12) (by decide +kernel)) ?_
  refine nm_p (e' := zS209) rfl ?_
  refine ⟨by unfold vp_in; decide +kernel, ?_⟩
  refine nm_p (e' := zS210) (congrArg (fun j => uJ zS209 103 j 542723566) (by decide +kernel)) ?_
  refine ⟨by unfold vp_in; decide +kernel, ?_⟩
  refine nm_p (e' := zS211) (congrArg (fun j => uJ zS210 103 j 370116) (by decide +kernel)) ?_
  refine ⟨by unfold vp_in; decide +kernel, ?_⟩
  refine nm_p (e' := zS212) (congrArg (fun j => uJ zS211 103 j 19758) (by decide +kernel)) ?_
  refine ⟨by unfold vp_in; decide +kernel, ?_⟩
  refine nm_p (e' := zS213) (congrArg (fun j => uJ zS212 103 j 632275) (by decide +kernel)) ?_
  refine ⟨by unfold vp_in; decide +kernel, ?_⟩
  refine nm_p (e' := zS214) (congrArg (fun j => uJ zS213 103 j 20225300) (by decide +kernel)) ?_
  refine ⟨by unfold vp_in; decide +kernel, ?_⟩
  refine nm_p (e' := zS215) (congrArg (fun j => uJ zS214 103 j 12596) (by decide +kernel)) ?_
  refine ⟨by unfold vp_in; decide +kernel, ?_⟩
  refine nm_p (e' := zS216) (congrArg (fun j => uJ zS215 103 j 6605428) (by decide +kernel)) ?_
  refine ⟨by unfold vp_in; decide +kernel, ?_⟩
  refine nm_p (e' := zS217) (congrArg (fun j => uJ zS216 103 j 4153) (by decide +kernel)) ?_
  refine ⟨by unfold vp_in; decide +kernel, ?_⟩
  refine nm_p (e' := zS218) (congrArg (fun j => uJ zS217 103 j 441828) (by decide +kernel)) ?_
  refine nm_p (e' := zS219) rfl ?_
  refine nm_p (e' := 104) (by decide +kernel) ?_
  refine nm_p (e' := zG100) (congrArg (gN zG99 12) (by decide +kernel)) ?_
  refine nm_p (e' := zS220) rfl ?_
  refine ⟨by unfold vp_in; decide +kernel, ?_⟩
  refine nm_p (e' := zS221) (congrArg (fun j => uJ zS220 104 j 4153) (by decide +kernel)) ?_
  refine ⟨by unfold vp_in; decide +kernel, ?_⟩
  refine nm_p (e' := zS222) (congrArg (fun j => uJ zS221 104 j 146885) (by decide +kernel)) ?_
  refine ⟨by unfold vp_in; decide +kernel, ?_⟩
  refine nm_p (e' := zS223) (congrArg (fun j => uJ zS222 104 j 404362868) (by decide +kernel)) ?_
  refine ⟨by unfold vp_in; decide +kernel, ?_⟩
  refine nm_p (e' := zS224) (congrArg (fun j => uJ zS223 104 j 20026821) (by decide +kernel)) ?_
  refine ⟨by unfold vp_in; decide +kernel, ?_⟩
  refine nm_p (e' := zS225) (congrArg (fun j => uJ zS224 104 j 632275) (by decide +kernel)) ?_
  refine ⟨by unfold vp_in; decide +kernel, ?_⟩
  refine nm_p (e' := zS226) (congrArg (fun j => uJ zS225 104 j 20225300) (by decide +kernel)) ?_
  refine ⟨by unfold vp_in; decide +kernel, ?_⟩
  refine nm_p (e' := zS227) (congrArg (fun j => uJ zS226 104 j 146611) (by decide +kernel)) ?_
  refine nm_p (e' := zS228) rfl ?_
  refine nm_p (e' := 105) (by decide +kernel) ?_
  refine nm_p (e' := zG101) (congrArg (gN zG100 12) (by decide +kernel)) ?_
  refine nm_p (e' := zS229) rfl ?_
  refine ⟨by unfold vp_in; decide +kernel, ?_⟩
  refine nm_p (e' := zS230) (congrArg (fun j => uJ zS229 105 j 254064787) (by decide +kernel)) ?_
  refine ⟨by unfold vp_in; decide +kernel, ?_⟩
  refine nm_p (e' := zS231) (congrArg (fun j => uJ zS230 105 j 7945971) (by decide +kernel)) ?_
  refine ⟨by unfold vp_in; decide +kernel, ?_⟩
  refine nm_p (e' := zS232) (congrArg (fun j => uJ zS231 105 j 146611) (by decide +kernel)) ?_
  refine ⟨by unfold vp_in; decide +kernel, ?_⟩
  refine nm_p (e' := zS233) (congrArg (fun j => uJ zS232 105 j 67155) (by decide +kernel)) ?_
  refine nm_p (e' := zS234) rfl ?_
  refine nm_p (e' := 106) (by decide +kernel) ?_
  refine nm_p (e' := zG102) (congrArg (gN zG101 12) (by decide +kernel)) ?_
  refine nm_p (e' := zS235) rfl ?_
  refine nm_p (e' := zS236) rfl ?_
  refine nm_p (e' := 107) (by decide +kernel) ?_
  refine nm_p (e' := zG103) (congrArg (gN zG102 12) (by decide +kernel)) ?_
  refine nm_p (e' := zS237) rfl ?_
  refine nm_p (e' := zS238) rfl ?_
  refine nm_p (e' := 108) (by decide +kernel) ?_
  refine nm_p (e' := zG104) (congrArg (gN zG103 11) (by decide +kernel)) ?_
  refine nm_p (e' := zS239) rfl ?_
  refine nm_p (e' := zS240) rfl ?_
  refine nm_p (e' := 109) (by decide +kernel) ?_
  refine nm_p (e' := zG105) (congrArg (gN zG104 12) (by decide +kernel)) ?_
  refine nm_p (e' := zS241) rfl ?_
  refine nm_p (e' := zS242) rfl ?_
  refine nm_p (e' := 110) (by decide +kernel) ?_
  refine nm_p (e' := zG106) (congrArg (gN zG105 11) (by decide +kernel)) ?_
  refine nm_p (e' := zS243) rfl ?_
  refine nm_p (e' := zS244) rfl ?_
  refine nm_p (e' := 111) (by decide +kernel) ?_
  refine nm_p (e' := zG107) (congrArg (gN zG106 11) (by decide +kernel)) ?_
  refine nm_p (e' := zS245) rfl ?_
  refine nm_p (e' := zS246) rfl ?_
  refine nm_p (e' := 112) (by decide +kernel) ?_
  refine nm_p (e' := zG108) (congrArg (gN zG107 11) (by decide +kernel)) ?_
  refine nm_p (e' := zS247) rfl ?_
  refine nm_p (e' := zS248) rfl ?_
  refine nm_p (e' := 113) (by decide +kernel) ?_
  refine nm_p (e' := zG109) (congrArg (gN zG108 11) (by decide +kernel)) ?_
  refine nm_p (e' := zS249) rfl ?_
  refine nm_p (e' := zS250) rfl ?_
  refine nm_p (e' := 114) (by decide +kernel) ?_
  refine nm_p (e' := zG110) (congrArg (gN zG109 13) (by decide +kernel)) ?_
  refine nm_p (e' := zS251) rfl ?_
  refine nm_p (e' := zS252) rfl ?_
  refine nm_p (e' := 115) (by decide +kernel) ?_
  refine nm_p (e' := zG111) (congrArg (gN zG110 11) (by decide +kernel)) ?_
  refine nm_p (e' := zS253) rfl ?_
  refine nm_p (e' := zS254) rfl ?_
  refine nm_p (e' := 116) (by decide +kernel) ?_
  refine nm_p (e' := zG112) (congrArg (gN zG111 11) (by decide +kernel)) ?_
  refine nm_p (e' := zS255) rfl ?_
  refine nm_p (e' := zS256) rfl ?_
  refine nm_p (e' := 117) (by decide +kernel) ?_
  refine nm_p (e' := zG113) (congrArg (gN zG112 12) (by decide +kernel)) ?_
  refine nm_p (e' := zS257) rfl ?_
  refine nm_p (e' := zS258) rfl ?_
  refine nm_p (e' := 118) (by decide +kernel) ?_
  refine nm_p (e' := zG114) (congrArg (gN zG113 12) (by decide +kernel)) ?_
  refine nm_p (e' := zS259) rfl ?_
  refine ⟨by unfold vp_in; decide +kernel, ?_⟩
  refine nm_p (e' := zS260) (congrArg (fun j => uJ zS259 118 j 19758) (by decide +kernel)) ?_
  refine ⟨by unfold vp_in; decide +kernel, ?_⟩
  refine nm_p (e' := zS261) (congrArg (fun j => uJ zS260 118 j 646192) (by decide +kernel)) ?_
  refine ⟨by unfold vp_in; decide +kernel, ?_⟩
  refine nm_p (e' := zS262) (congrArg (fun j => uJ zS261 118 j 7939524) (by decide +kernel)) ?_
  refine ⟨by unfold vp_in; decide +kernel, ?_⟩
  refine nm_p (e' := zS263) (congrArg (fun j => uJ zS262 118 j 3554952) (by decide +kernel)) ?_
  refine ⟨by unfold vp_in; decide +kernel, ?_⟩
  refine nm_p (e' := zS264) (congrArg (fun j => uJ zS263 118 j 525939) (by decide +kernel)) ?_
  refine nm_p (e' := zS265) rfl ?_
  refine nm_p (e' := 119) (by decide +kernel) ?_
  refine nm_p (e' := zG115) (congrArg (gN zG114 11) (by decide +kernel)) ?_
  refine nm_p (e' := zS266) rfl ?_
  refine nm_p (e' := zS267) rfl ?_
  refine nm_p (e' := zS268) rfl ?_
  refine nm_p (e' := 120) (by decide +kernel) ?_
  refine nm_p (e' := zG116) (congrArg (gN zG115 11) (by decide +kernel)) ?_
  refine nm_p (e' := zS269) rfl ?_
  refine nm_p (e' := zS270) rfl ?_
  refine nm_p (e' := zS271) rfl ?_
  refine ex_y (i := 90) (by decide +kernel) ?_
  refine ⟨by unfold vp_in; decide +kernel, ?_⟩
  refine nm_p (e' := zS272) (congrArg (fun j => uI zS271 90 j (-1)) (by decide +kernel)) ?_
  refine ex_y (i := 90) (by decide +kernel) ?_
  refine ⟨by unfold vp_in; decide +kernel, ?_⟩
  refine nm_p (e' := zS273) (congrArg (fun j => uI zS272 90 j 1) (by decide +kernel)) ?_
  exact z
end
