def am_ck (j : Nat) (e : Nat × am_I) : Bool := decide (decode (am_by j) e.1 = .ok (e.2.1, e.2.2.1)) && am_vb j e.1 e.2
theorem am_all_split {j : Nat} {t : List (Nat × am_I)} (n : Nat) (h1 : (t.take n).all (am_ck j) = true) (h2 : (t.drop n).all (am_ck j) = true) : t.all (am_ck j) = true := by
  rw [← List.take_append_drop n t, List.all_append, h1, h2]; rfl
set_option maxRecDepth 100000 in
theorem am_v0_0 : ((am_t0.drop 0).take 60).all (am_ck 0) = true := by decide +kernel
set_option maxRecDepth 100000 in
theorem am_v0_60 : ((am_t0.drop 60).take 60).all (am_ck 0) = true := by decide +kernel
set_option maxRecDepth 100000 in
theorem am_v1_0 : ((am_t1.drop 0).take 60).all (am_ck 1) = true := by decide +kernel
set_option maxRecDepth 100000 in
theorem am_v2_0 : ((am_t2.drop 0).take 60).all (am_ck 2) = true := by decide +kernel
set_option maxRecDepth 100000 in
theorem am_v3_0 : ((am_t3.drop 0).take 60).all (am_ck 3) = true := by decide +kernel
set_option maxRecDepth 100000 in
theorem am_v4_0 : ((am_t4.drop 0).take 60).all (am_ck 4) = true := by decide +kernel
set_option maxRecDepth 100000 in
theorem am_v5_0 : ((am_t5.drop 0).take 60).all (am_ck 5) = true := by decide +kernel
set_option maxRecDepth 100000 in
theorem am_v6_0 : ((am_t6.drop 0).take 60).all (am_ck 6) = true := by decide +kernel
set_option maxRecDepth 100000 in
theorem am_v7_0 : ((am_t7.drop 0).take 60).all (am_ck 7) = true := by decide +kernel
set_option maxRecDepth 100000 in
theorem am_v8_0 : ((am_t8.drop 0).take 60).all (am_ck 8) = true := by decide +kernel
set_option maxRecDepth 100000 in
theorem am_v9_0 : ((am_t9.drop 0).take 60).all (am_ck 9) = true := by decide +kernel
set_option maxRecDepth 100000 in
theorem am_v10_0 : ((am_t10.drop 0).take 60).all (am_ck 10) = true := by decide +kernel
set_option maxRecDepth 100000 in
theorem am_v11_0 : ((am_t11.drop 0).take 60).all (am_ck 11) = true := by decide +kernel
set_option maxRecDepth 100000 in
theorem am_v12_0 : ((am_t12.drop 0).take 60).all (am_ck 12) = true := by decide +kernel
set_option maxRecDepth 100000 in
theorem am_v13_0 : ((am_t13.drop 0).take 60).all (am_ck 13) = true := by decide +kernel
set_option maxRecDepth 100000 in
theorem am_v14_0 : ((am_t14.drop 0).take 60).all (am_ck 14) = true := by decide +kernel
set_option maxRecDepth 100000 in
theorem am_v15_0 : ((am_t15.drop 0).take 60).all (am_ck 15) = true := by decide +kernel
set_option maxRecDepth 100000 in
theorem am_v16_0 : ((am_t16.drop 0).take 60).all (am_ck 16) = true := by decide +kernel
set_option maxRecDepth 100000 in
theorem am_v17_0 : ((am_t17.drop 0).take 60).all (am_ck 17) = true := by decide +kernel
set_option maxRecDepth 100000 in
theorem am_v18_0 : ((am_t18.drop 0).take 60).all (am_ck 18) = true := by decide +kernel
set_option maxRecDepth 100000 in
theorem am_v19_0 : ((am_t19.drop 0).take 60).all (am_ck 19) = true := by decide +kernel
set_option maxRecDepth 100000 in
theorem am_v20_0 : ((am_t20.drop 0).take 60).all (am_ck 20) = true := by decide +kernel
set_option maxRecDepth 100000 in
theorem am_v21_0 : ((am_t21.drop 0).take 60).all (am_ck 21) = true := by decide +kernel
set_option maxRecDepth 100000 in
theorem am_v22_0 : ((am_t22.drop 0).take 60).all (am_ck 22) = true := by decide +kernel
set_option maxRecDepth 100000 in
theorem am_v23_0 : ((am_t23.drop 0).take 60).all (am_ck 23) = true := by decide +kernel
set_option maxRecDepth 100000 in
theorem am_v24_0 : ((am_t24.drop 0).take 60).all (am_ck 24) = true := by decide +kernel
set_option maxRecDepth 100000 in
theorem am_v25_0 : ((am_t25.drop 0).take 60).all (am_ck 25) = true := by decide +kernel
set_option maxRecDepth 100000 in
theorem am_v26_0 : ((am_t26.drop 0).take 60).all (am_ck 26) = true := by decide +kernel
set_option maxRecDepth 100000 in
theorem am_v27_0 : ((am_t27.drop 0).take 60).all (am_ck 27) = true := by decide +kernel
set_option maxRecDepth 100000 in
theorem am_v28_0 : ((am_t28.drop 0).take 60).all (am_ck 28) = true := by decide +kernel
set_option maxRecDepth 100000 in
theorem am_v29_0 : ((am_t29.drop 0).take 60).all (am_ck 29) = true := by decide +kernel
set_option maxRecDepth 100000 in
theorem am_v30_0 : ((am_t30.drop 0).take 60).all (am_ck 30) = true := by decide +kernel
set_option maxRecDepth 100000 in
theorem am_v30_60 : ((am_t30.drop 60).take 60).all (am_ck 30) = true := by decide +kernel
set_option maxRecDepth 100000 in
theorem am_v31_0 : ((am_t31.drop 0).take 60).all (am_ck 31) = true := by decide +kernel
set_option maxRecDepth 100000 in
theorem am_v32_0 : ((am_t32.drop 0).take 60).all (am_ck 32) = true := by decide +kernel
set_option maxRecDepth 100000 in
theorem am_v33_0 : ((am_t33.drop 0).take 60).all (am_ck 33) = true := by decide +kernel
set_option maxRecDepth 100000 in
theorem am_v34_0 : ((am_t34.drop 0).take 60).all (am_ck 34) = true := by decide +kernel
set_option maxRecDepth 100000 in
theorem am_v35_0 : ((am_t35.drop 0).take 60).all (am_ck 35) = true := by decide +kernel
set_option maxRecDepth 100000 in
theorem am_v36_0 : ((am_t36.drop 0).take 60).all (am_ck 36) = true := by decide +kernel
set_option maxRecDepth 100000 in
theorem am_v37_0 : ((am_t37.drop 0).take 60).all (am_ck 37) = true := by decide +kernel
set_option maxRecDepth 100000 in
theorem am_v38_0 : ((am_t38.drop 0).take 60).all (am_ck 38) = true := by decide +kernel
set_option maxRecDepth 100000 in
theorem am_v39_0 : ((am_t39.drop 0).take 60).all (am_ck 39) = true := by decide +kernel
set_option maxRecDepth 100000 in
theorem am_v40_0 : ((am_t40.drop 0).take 60).all (am_ck 40) = true := by decide +kernel
set_option maxRecDepth 100000 in
theorem am_v41_0 : ((am_t41.drop 0).take 60).all (am_ck 41) = true := by decide +kernel
set_option maxRecDepth 100000 in
theorem am_v42_0 : ((am_t42.drop 0).take 60).all (am_ck 42) = true := by decide +kernel
set_option maxRecDepth 100000 in
theorem am_v43_0 : ((am_t43.drop 0).take 60).all (am_ck 43) = true := by decide +kernel
set_option maxRecDepth 100000 in
theorem am_v44_0 : ((am_t44.drop 0).take 60).all (am_ck 44) = true := by decide +kernel
set_option maxRecDepth 100000 in
theorem am_v45_0 : ((am_t45.drop 0).take 60).all (am_ck 45) = true := by decide +kernel
set_option maxRecDepth 100000 in
theorem am_v46_0 : ((am_t46.drop 0).take 60).all (am_ck 46) = true := by decide +kernel
set_option maxRecDepth 100000 in
theorem am_v47_0 : ((am_t47.drop 0).take 60).all (am_ck 47) = true := by decide +kernel
set_option maxRecDepth 100000 in
theorem am_v48_0 : ((am_t48.drop 0).take 60).all (am_ck 48) = true := by decide +kernel
set_option maxRecDepth 100000 in
theorem am_v49_0 : ((am_t49.drop 0).take 60).all (am_ck 49) = true := by decide +kernel
set_option maxRecDepth 100000 in
theorem am_v50_0 : ((am_t50.drop 0).take 60).all (am_ck 50) = true := by decide +kernel
set_option maxRecDepth 100000 in
theorem am_v51_0 : ((am_t51.drop 0).take 60).all (am_ck 51) = true := by decide +kernel
set_option maxRecDepth 100000 in
theorem am_v52_0 : ((am_t52.drop 0).take 60).all (am_ck 52) = true := by decide +kernel
set_option maxRecDepth 100000 in
theorem am_v53_0 : ((am_t53.drop 0).take 60).all (am_ck 53) = true := by decide +kernel
set_option maxRecDepth 100000 in
theorem am_v54_0 : ((am_t54.drop 0).take 60).all (am_ck 54) = true := by decide +kernel
set_option maxRecDepth 100000 in
theorem am_v55_0 : ((am_t55.drop 0).take 60).all (am_ck 55) = true := by decide +kernel
set_option maxRecDepth 100000 in
theorem am_v56_0 : ((am_t56.drop 0).take 60).all (am_ck 56) = true := by decide +kernel
set_option maxRecDepth 100000 in
theorem am_v57_0 : ((am_t57.drop 0).take 60).all (am_ck 57) = true := by decide +kernel
set_option maxRecDepth 100000 in
theorem am_v58_0 : ((am_t58.drop 0).take 60).all (am_ck 58) = true := by decide +kernel
set_option maxRecDepth 100000 in
theorem am_v59_0 : ((am_t59.drop 0).take 60).all (am_ck 59) = true := by decide +kernel
set_option maxRecDepth 100000 in
theorem am_v60_0 : ((am_t60.drop 0).take 60).all (am_ck 60) = true := by decide +kernel
set_option maxRecDepth 100000 in
theorem am_v61_0 : ((am_t61.drop 0).take 60).all (am_ck 61) = true := by decide +kernel
set_option maxRecDepth 100000 in
theorem am_v62_0 : ((am_t62.drop 0).take 60).all (am_ck 62) = true := by decide +kernel
set_option maxRecDepth 100000 in
theorem am_v63_0 : ((am_t63.drop 0).take 60).all (am_ck 63) = true := by decide +kernel
set_option maxRecDepth 100000 in
theorem am_v64_0 : ((am_t64.drop 0).take 60).all (am_ck 64) = true := by decide +kernel
set_option maxRecDepth 100000 in
theorem am_v65_0 : ((am_t65.drop 0).take 60).all (am_ck 65) = true := by decide +kernel
set_option maxRecDepth 100000 in
theorem am_v66_0 : ((am_t66.drop 0).take 60).all (am_ck 66) = true := by decide +kernel
set_option maxRecDepth 100000 in
theorem am_v67_0 : ((am_t67.drop 0).take 60).all (am_ck 67) = true := by decide +kernel
set_option maxRecDepth 100000 in
theorem am_v68_0 : ((am_t68.drop 0).take 60).all (am_ck 68) = true := by decide +kernel
set_option maxRecDepth 100000 in
theorem am_v69_0 : ((am_t69.drop 0).take 60).all (am_ck 69) = true := by decide +kernel
set_option maxRecDepth 100000 in
theorem am_v70_0 : ((am_t70.drop 0).take 60).all (am_ck 70) = true := by decide +kernel
set_option maxRecDepth 100000 in
theorem am_v71_0 : ((am_t71.drop 0).take 60).all (am_ck 71) = true := by decide +kernel
set_option maxRecDepth 100000 in
theorem am_v72_0 : ((am_t72.drop 0).take 60).all (am_ck 72) = true := by decide +kernel
set_option maxRecDepth 100000 in
theorem am_v73_0 : ((am_t73.drop 0).take 60).all (am_ck 73) = true := by decide +kernel
set_option maxRecDepth 100000 in
theorem am_v74_0 : ((am_t74.drop 0).take 60).all (am_ck 74) = true := by decide +kernel
set_option maxRecDepth 100000 in
theorem am_v75_0 : ((am_t75.drop 0).take 60).all (am_ck 75) = true := by decide +kernel
set_option maxRecDepth 100000 in
theorem am_v76_0 : ((am_t76.drop 0).take 60).all (am_ck 76) = true := by decide +kernel
set_option maxRecDepth 100000 in
theorem am_v77_0 : ((am_t77.drop 0).take 60).all (am_ck 77) = true := by decide +kernel
set_option maxRecDepth 100000 in
theorem am_v78_0 : ((am_t78.drop 0).take 60).all (am_ck 78) = true := by decide +kernel
set_option maxRecDepth 100000 in
theorem am_v79_0 : ((am_t79.drop 0).take 60).all (am_ck 79) = true := by decide +kernel
set_option maxRecDepth 100000 in
theorem am_v80_0 : ((am_t80.drop 0).take 60).all (am_ck 80) = true := by decide +kernel
set_option maxRecDepth 100000 in
theorem am_v81_0 : ((am_t81.drop 0).take 60).all (am_ck 81) = true := by decide +kernel
set_option maxRecDepth 100000 in
theorem am_v82_0 : ((am_t82.drop 0).take 60).all (am_ck 82) = true := by decide +kernel
set_option maxRecDepth 100000 in
theorem am_v83_0 : ((am_t83.drop 0).take 60).all (am_ck 83) = true := by decide +kernel
set_option maxRecDepth 100000 in
theorem am_v84_0 : ((am_t84.drop 0).take 60).all (am_ck 84) = true := by decide +kernel
set_option maxRecDepth 100000 in
theorem am_v85_0 : ((am_t85.drop 0).take 60).all (am_ck 85) = true := by decide +kernel
set_option maxRecDepth 100000 in
theorem am_v86_0 : ((am_t86.drop 0).take 60).all (am_ck 86) = true := by decide +kernel
set_option maxRecDepth 100000 in
theorem am_v87_0 : ((am_t87.drop 0).take 60).all (am_ck 87) = true := by decide +kernel
set_option maxRecDepth 100000 in
theorem am_v88_0 : ((am_t88.drop 0).take 60).all (am_ck 88) = true := by decide +kernel
set_option maxRecDepth 100000 in
theorem am_v89_0 : ((am_t89.drop 0).take 60).all (am_ck 89) = true := by decide +kernel
set_option maxRecDepth 100000 in
theorem am_v90_0 : ((am_t90.drop 0).take 60).all (am_ck 90) = true := by decide +kernel
set_option maxRecDepth 100000 in
theorem am_v91_0 : ((am_t91.drop 0).take 60).all (am_ck 91) = true := by decide +kernel
set_option maxRecDepth 100000 in
theorem am_v92_0 : ((am_t92.drop 0).take 60).all (am_ck 92) = true := by decide +kernel
set_option maxRecDepth 100000 in
theorem am_v93_0 : ((am_t93.drop 0).take 60).all (am_ck 93) = true := by decide +kernel
set_option maxRecDepth 100000 in
theorem am_v93_60 : ((am_t93.drop 60).take 60).all (am_ck 93) = true := by decide +kernel
set_option maxRecDepth 100000 in
theorem am_v94_0 : ((am_t94.drop 0).take 60).all (am_ck 94) = true := by decide +kernel
set_option maxRecDepth 100000 in
theorem am_v95_0 : ((am_t95.drop 0).take 60).all (am_ck 95) = true := by decide +kernel
set_option maxRecDepth 100000 in
theorem am_v96_0 : ((am_t96.drop 0).take 60).all (am_ck 96) = true := by decide +kernel
set_option maxRecDepth 100000 in
theorem am_v97_0 : ((am_t97.drop 0).take 60).all (am_ck 97) = true := by decide +kernel
set_option maxRecDepth 100000 in
theorem am_v98_0 : ((am_t98.drop 0).take 60).all (am_ck 98) = true := by decide +kernel
set_option maxRecDepth 100000 in
theorem am_v98_60 : ((am_t98.drop 60).take 60).all (am_ck 98) = true := by decide +kernel
set_option maxRecDepth 100000 in
theorem am_v98_120 : ((am_t98.drop 120).take 60).all (am_ck 98) = true := by decide +kernel
set_option maxRecDepth 100000 in
theorem am_v99_0 : ((am_t99.drop 0).take 60).all (am_ck 99) = true := by decide +kernel
set_option maxRecDepth 100000 in
theorem am_v100_0 : ((am_t100.drop 0).take 60).all (am_ck 100) = true := by decide +kernel
set_option maxRecDepth 100000 in
theorem am_v101_0 : ((am_t101.drop 0).take 60).all (am_ck 101) = true := by decide +kernel
set_option maxRecDepth 100000 in
theorem am_v101_60 : ((am_t101.drop 60).take 60).all (am_ck 101) = true := by decide +kernel
set_option maxRecDepth 100000 in
theorem am_v102_0 : ((am_t102.drop 0).take 60).all (am_ck 102) = true := by decide +kernel
set_option maxRecDepth 100000 in
theorem am_v103_0 : ((am_t103.drop 0).take 60).all (am_ck 103) = true := by decide +kernel
set_option maxRecDepth 100000 in
theorem am_v104_0 : ((am_t104.drop 0).take 60).all (am_ck 104) = true := by decide +kernel
set_option maxRecDepth 100000 in
theorem am_v104_60 : ((am_t104.drop 60).take 60).all (am_ck 104) = true := by decide +kernel
set_option maxRecDepth 100000 in
theorem am_v104_120 : ((am_t104.drop 120).take 60).all (am_ck 104) = true := by decide +kernel
set_option maxRecDepth 100000 in
theorem am_v105_0 : ((am_t105.drop 0).take 60).all (am_ck 105) = true := by decide +kernel
set_option maxRecDepth 100000 in
theorem am_v106_0 : ((am_t106.drop 0).take 60).all (am_ck 106) = true := by decide +kernel
set_option maxRecDepth 100000 in
theorem am_v107_0 : ((am_t107.drop 0).take 60).all (am_ck 107) = true := by decide +kernel
set_option maxRecDepth 100000 in
theorem am_v108_0 : ((am_t108.drop 0).take 60).all (am_ck 108) = true := by decide +kernel
set_option maxRecDepth 100000 in
theorem am_v109_0 : ((am_t109.drop 0).take 60).all (am_ck 109) = true := by decide +kernel
set_option maxRecDepth 100000 in
theorem am_v110_0 : ((am_t110.drop 0).take 60).all (am_ck 110) = true := by decide +kernel
set_option maxRecDepth 100000 in
theorem am_v111_0 : ((am_t111.drop 0).take 60).all (am_ck 111) = true := by decide +kernel
set_option maxRecDepth 100000 in
theorem am_v112_0 : ((am_t112.drop 0).take 60).all (am_ck 112) = true := by decide +kernel
set_option maxRecDepth 100000 in
theorem am_v113_0 : ((am_t113.drop 0).take 60).all (am_ck 113) = true := by decide +kernel
set_option maxRecDepth 100000 in
theorem am_v114_0 : ((am_t114.drop 0).take 60).all (am_ck 114) = true := by decide +kernel
set_option maxRecDepth 100000 in
theorem am_v115_0 : ((am_t115.drop 0).take 60).all (am_ck 115) = true := by decide +kernel
set_option maxRecDepth 100000 in
theorem am_v116_0 : ((am_t116.drop 0).take 60).all (am_ck 116) = true := by decide +kernel
set_option maxRecDepth 100000 in
theorem am_v116_60 : ((am_t116.drop 60).take 60).all (am_ck 116) = true := by decide +kernel
set_option maxRecDepth 100000 in
theorem am_v117_0 : ((am_t117.drop 0).take 60).all (am_ck 117) = true := by decide +kernel
set_option maxRecDepth 100000 in
theorem am_v118_0 : ((am_t118.drop 0).take 60).all (am_ck 118) = true := by decide +kernel
set_option maxRecDepth 100000 in
theorem am_v119_0 : ((am_t119.drop 0).take 60).all (am_ck 119) = true := by decide +kernel
set_option maxRecDepth 100000 in
theorem am_v120_0 : ((am_t120.drop 0).take 60).all (am_ck 120) = true := by decide +kernel
set_option maxRecDepth 100000 in
theorem am_v121_0 : ((am_t121.drop 0).take 60).all (am_ck 121) = true := by decide +kernel
set_option maxRecDepth 100000 in
theorem am_v122_0 : ((am_t122.drop 0).take 60).all (am_ck 122) = true := by decide +kernel
set_option maxRecDepth 100000 in
theorem am_v123_0 : ((am_t123.drop 0).take 60).all (am_ck 123) = true := by decide +kernel
set_option maxRecDepth 100000 in
theorem am_v124_0 : ((am_t124.drop 0).take 60).all (am_ck 124) = true := by decide +kernel
set_option maxRecDepth 100000 in
theorem am_v124_60 : ((am_t124.drop 60).take 60).all (am_ck 124) = true := by decide +kernel
set_option maxRecDepth 100000 in
theorem am_v125_0 : ((am_t125.drop 0).take 60).all (am_ck 125) = true := by decide +kernel
set_option maxRecDepth 100000 in
theorem am_v126_0 : ((am_t126.drop 0).take 60).all (am_ck 126) = true := by decide +kernel
set_option maxRecDepth 100000 in
theorem am_v127_0 : ((am_t127.drop 0).take 60).all (am_ck 127) = true := by decide +kernel
set_option maxRecDepth 100000 in
theorem am_v128_0 : ((am_t128.drop 0).take 60).all (am_ck 128) = true := by decide +kernel
set_option maxRecDepth 100000 in
theorem am_v129_0 : ((am_t129.drop 0).take 60).all (am_ck 129) = true := by decide +kernel
set_option maxRecDepth 100000 in
theorem am_v130_0 : ((am_t130.drop 0).take 60).all (am_ck 130) = true := by decide +kernel
set_option maxRecDepth 100000 in
theorem am_v131_0 : ((am_t131.drop 0).take 60).all (am_ck 131) = true := by decide +kernel
set_option maxRecDepth 100000 in
theorem am_v132_0 : ((am_t132.drop 0).take 60).all (am_ck 132) = true := by decide +kernel
set_option maxRecDepth 100000 in
theorem am_v133_0 : ((am_t133.drop 0).take 60).all (am_ck 133) = true := by decide +kernel
set_option maxRecDepth 100000 in
theorem am_v134_0 : ((am_t134.drop 0).take 60).all (am_ck 134) = true := by decide +kernel
set_option maxRecDepth 100000 in
theorem am_v135_0 : ((am_t135.drop 0).take 60).all (am_ck 135) = true := by decide +kernel
set_option maxRecDepth 100000 in
theorem am_v136_0 : ((am_t136.drop 0).take 60).all (am_ck 136) = true := by decide +kernel
set_option maxRecDepth 100000 in
theorem am_v137_0 : ((am_t137.drop 0).take 60).all (am_ck 137) = true := by decide +kernel
set_option maxRecDepth 100000 in
theorem am_v138_0 : ((am_t138.drop 0).take 60).all (am_ck 138) = true := by decide +kernel
set_option maxRecDepth 100000 in
theorem am_v139_0 : ((am_t139.drop 0).take 60).all (am_ck 139) = true := by decide +kernel
set_option maxRecDepth 100000 in
theorem am_v140_0 : ((am_t140.drop 0).take 60).all (am_ck 140) = true := by decide +kernel
set_option maxRecDepth 100000 in
theorem am_v140_60 : ((am_t140.drop 60).take 60).all (am_ck 140) = true := by decide +kernel
set_option maxRecDepth 100000 in
theorem am_v141_0 : ((am_t141.drop 0).take 60).all (am_ck 141) = true := by decide +kernel
set_option maxRecDepth 100000 in
theorem am_v142_0 : ((am_t142.drop 0).take 60).all (am_ck 142) = true := by decide +kernel
set_option maxRecDepth 100000 in
theorem am_v143_0 : ((am_t143.drop 0).take 60).all (am_ck 143) = true := by decide +kernel
set_option maxRecDepth 100000 in
theorem am_v143_60 : ((am_t143.drop 60).take 60).all (am_ck 143) = true := by decide +kernel
set_option maxRecDepth 100000 in
theorem am_v143_120 : ((am_t143.drop 120).take 60).all (am_ck 143) = true := by decide +kernel
set_option maxRecDepth 100000 in
theorem am_v143_180 : ((am_t143.drop 180).take 60).all (am_ck 143) = true := by decide +kernel
set_option maxRecDepth 100000 in
theorem am_v143_240 : ((am_t143.drop 240).take 60).all (am_ck 143) = true := by decide +kernel
set_option maxRecDepth 100000 in
theorem am_v143_300 : ((am_t143.drop 300).take 60).all (am_ck 143) = true := by decide +kernel
set_option maxRecDepth 100000 in
theorem am_v143_360 : ((am_t143.drop 360).take 60).all (am_ck 143) = true := by decide +kernel
set_option maxRecDepth 100000 in
theorem am_v0 : am_t0.all (am_ck 0) = true := by
  have h60 : (am_t0.drop 60).all (am_ck 0) = true := by
    have h := am_v0_60
    rw [List.take_of_length_le (by decide +kernel)] at h
    exact h
  have h0 : (am_t0.drop 0).all (am_ck 0) = true := am_all_split 60 am_v0_0 (by rw [List.drop_drop]; exact h60)
  rw [List.drop_zero] at h0
  exact h0
set_option maxRecDepth 100000 in
theorem am_v1 : am_t1.all (am_ck 1) = true := by
  have h := am_v1_0
  rw [List.drop_zero, List.take_of_length_le (by decide +kernel)] at h
  exact h
set_option maxRecDepth 100000 in
theorem am_v2 : am_t2.all (am_ck 2) = true := by
  have h := am_v2_0
  rw [List.drop_zero, List.take_of_length_le (by decide +kernel)] at h
  exact h
set_option maxRecDepth 100000 in
theorem am_v3 : am_t3.all (am_ck 3) = true := by
  have h := am_v3_0
  rw [List.drop_zero, List.take_of_length_le (by decide +kernel)] at h
  exact h
set_option maxRecDepth 100000 in
theorem am_v4 : am_t4.all (am_ck 4) = true := by
  have h := am_v4_0
  rw [List.drop_zero, List.take_of_length_le (by decide +kernel)] at h
  exact h
set_option maxRecDepth 100000 in
theorem am_v5 : am_t5.all (am_ck 5) = true := by
  have h := am_v5_0
  rw [List.drop_zero, List.take_of_length_le (by decide +kernel)] at h
  exact h
set_option maxRecDepth 100000 in
theorem am_v6 : am_t6.all (am_ck 6) = true := by
  have h := am_v6_0
  rw [List.drop_zero, List.take_of_length_le (by decide +kernel)] at h
  exact h
set_option maxRecDepth 100000 in
theorem am_v7 : am_t7.all (am_ck 7) = true := by
  have h := am_v7_0
  rw [List.drop_zero, List.take_of_length_le (by decide +kernel)] at h
  exact h
set_option maxRecDepth 100000 in
theorem am_v8 : am_t8.all (am_ck 8) = true := by
  have h := am_v8_0
  rw [List.drop_zero, List.take_of_length_le (by decide +kernel)] at h
  exact h
set_option maxRecDepth 100000 in
theorem am_v9 : am_t9.all (am_ck 9) = true := by
  have h := am_v9_0
  rw [List.drop_zero, List.take_of_length_le (by decide +kernel)] at h
  exact h
set_option maxRecDepth 100000 in
theorem am_v10 : am_t10.all (am_ck 10) = true := by
  have h := am_v10_0
  rw [List.drop_zero, List.take_of_length_le (by decide +kernel)] at h
  exact h
set_option maxRecDepth 100000 in
theorem am_v11 : am_t11.all (am_ck 11) = true := by
  have h := am_v11_0
  rw [List.drop_zero, List.take_of_length_le (by decide +kernel)] at h
  exact h
set_option maxRecDepth 100000 in
theorem am_v12 : am_t12.all (am_ck 12) = true := by
  have h := am_v12_0
  rw [List.drop_zero, List.take_of_length_le (by decide +kernel)] at h
  exact h
set_option maxRecDepth 100000 in
theorem am_v13 : am_t13.all (am_ck 13) = true := by
  have h := am_v13_0
  rw [List.drop_zero, List.take_of_length_le (by decide +kernel)] at h
  exact h
set_option maxRecDepth 100000 in
theorem am_v14 : am_t14.all (am_ck 14) = true := by
  have h := am_v14_0
  rw [List.drop_zero, List.take_of_length_le (by decide +kernel)] at h
  exact h
set_option maxRecDepth 100000 in
theorem am_v15 : am_t15.all (am_ck 15) = true := by
  have h := am_v15_0
  rw [List.drop_zero, List.take_of_length_le (by decide +kernel)] at h
  exact h
set_option maxRecDepth 100000 in
theorem am_v16 : am_t16.all (am_ck 16) = true := by
  have h := am_v16_0
  rw [List.drop_zero, List.take_of_length_le (by decide +kernel)] at h
  exact h
set_option maxRecDepth 100000 in
theorem am_v17 : am_t17.all (am_ck 17) = true := by
  have h := am_v17_0
  rw [List.drop_zero, List.take_of_length_le (by decide +kernel)] at h
  exact h
set_option maxRecDepth 100000 in
theorem am_v18 : am_t18.all (am_ck 18) = true := by
  have h := am_v18_0
  rw [List.drop_zero, List.take_of_length_le (by decide +kernel)] at h
  exact h
set_option maxRecDepth 100000 in
theorem am_v19 : am_t19.all (am_ck 19) = true := by
  have h := am_v19_0
  rw [List.drop_zero, List.take_of_length_le (by decide +kernel)] at h
  exact h
set_option maxRecDepth 100000 in
theorem am_v20 : am_t20.all (am_ck 20) = true := by
  have h := am_v20_0
  rw [List.drop_zero, List.take_of_length_le (by decide +kernel)] at h
  exact h
set_option maxRecDepth 100000 in
theorem am_v21 : am_t21.all (am_ck 21) = true := by
  have h := am_v21_0
  rw [List.drop_zero, List.take_of_length_le (by decide +kernel)] at h
  exact h
set_option maxRecDepth 100000 in
theorem am_v22 : am_t22.all (am_ck 22) = true := by
  have h := am_v22_0
  rw [List.drop_zero, List.take_of_length_le (by decide +kernel)] at h
  exact h
set_option maxRecDepth 100000 in
theorem am_v23 : am_t23.all (am_ck 23) = true := by
  have h := am_v23_0
  rw [List.drop_zero, List.take_of_length_le (by decide +kernel)] at h
  exact h
set_option maxRecDepth 100000 in
theorem am_v24 : am_t24.all (am_ck 24) = true := by
  have h := am_v24_0
  rw [List.drop_zero, List.take_of_length_le (by decide +kernel)] at h
  exact h
set_option maxRecDepth 100000 in
theorem am_v25 : am_t25.all (am_ck 25) = true := by
  have h := am_v25_0
  rw [List.drop_zero, List.take_of_length_le (by decide +kernel)] at h
  exact h
set_option maxRecDepth 100000 in
theorem am_v26 : am_t26.all (am_ck 26) = true := by
  have h := am_v26_0
  rw [List.drop_zero, List.take_of_length_le (by decide +kernel)] at h
  exact h
set_option maxRecDepth 100000 in
theorem am_v27 : am_t27.all (am_ck 27) = true := by
  have h := am_v27_0
  rw [List.drop_zero, List.take_of_length_le (by decide +kernel)] at h
  exact h
set_option maxRecDepth 100000 in
theorem am_v28 : am_t28.all (am_ck 28) = true := by
  have h := am_v28_0
  rw [List.drop_zero, List.take_of_length_le (by decide +kernel)] at h
  exact h
set_option maxRecDepth 100000 in
theorem am_v29 : am_t29.all (am_ck 29) = true := by
  have h := am_v29_0
  rw [List.drop_zero, List.take_of_length_le (by decide +kernel)] at h
  exact h
set_option maxRecDepth 100000 in
theorem am_v30 : am_t30.all (am_ck 30) = true := by
  have h60 : (am_t30.drop 60).all (am_ck 30) = true := by
    have h := am_v30_60
    rw [List.take_of_length_le (by decide +kernel)] at h
    exact h
  have h0 : (am_t30.drop 0).all (am_ck 30) = true := am_all_split 60 am_v30_0 (by rw [List.drop_drop]; exact h60)
  rw [List.drop_zero] at h0
  exact h0
set_option maxRecDepth 100000 in
theorem am_v31 : am_t31.all (am_ck 31) = true := by
  have h := am_v31_0
  rw [List.drop_zero, List.take_of_length_le (by decide +kernel)] at h
  exact h
set_option maxRecDepth 100000 in
theorem am_v32 : am_t32.all (am_ck 32) = true := by
  have h := am_v32_0
  rw [List.drop_zero, List.take_of_length_le (by decide +kernel)] at h
  exact h
set_option maxRecDepth 100000 in
theorem am_v33 : am_t33.all (am_ck 33) = true := by
  have h := am_v33_0
  rw [List.drop_zero, List.take_of_length_le (by decide +kernel)] at h
  exact h
set_option maxRecDepth 100000 in
theorem am_v34 : am_t34.all (am_ck 34) = true := by
  have h := am_v34_0
  rw [List.drop_zero, List.take_of_length_le (by decide +kernel)] at h
  exact h
set_option maxRecDepth 100000 in
theorem am_v35 : am_t35.all (am_ck 35) = true := by
  have h := am_v35_0
  rw [List.drop_zero, List.take_of_length_le (by decide +kernel)] at h
  exact h
set_option maxRecDepth 100000 in
theorem am_v36 : am_t36.all (am_ck 36) = true := by
  have h := am_v36_0
  rw [List.drop_zero, List.take_of_length_le (by decide +kernel)] at h
  exact h
set_option maxRecDepth 100000 in
theorem am_v37 : am_t37.all (am_ck 37) = true := by
  have h := am_v37_0
  rw [List.drop_zero, List.take_of_length_le (by decide +kernel)] at h
  exact h
set_option maxRecDepth 100000 in
theorem am_v38 : am_t38.all (am_ck 38) = true := by
  have h := am_v38_0
  rw [List.drop_zero, List.take_of_length_le (by decide +kernel)] at h
  exact h
set_option maxRecDepth 100000 in
theorem am_v39 : am_t39.all (am_ck 39) = true := by
  have h := am_v39_0
  rw [List.drop_zero, List.take_of_length_le (by decide +kernel)] at h
  exact h
set_option maxRecDepth 100000 in
theorem am_v40 : am_t40.all (am_ck 40) = true := by
  have h := am_v40_0
  rw [List.drop_zero, List.take_of_length_le (by decide +kernel)] at h
  exact h
set_option maxRecDepth 100000 in
theorem am_v41 : am_t41.all (am_ck 41) = true := by
  have h := am_v41_0
  rw [List.drop_zero, List.take_of_length_le (by decide +kernel)] at h
  exact h
set_option maxRecDepth 100000 in
theorem am_v42 : am_t42.all (am_ck 42) = true := by
  have h := am_v42_0
  rw [List.drop_zero, List.take_of_length_le (by decide +kernel)] at h
  exact h
set_option maxRecDepth 100000 in
theorem am_v43 : am_t43.all (am_ck 43) = true := by
  have h := am_v43_0
  rw [List.drop_zero, List.take_of_length_le (by decide +kernel)] at h
  exact h
set_option maxRecDepth 100000 in
theorem am_v44 : am_t44.all (am_ck 44) = true := by
  have h := am_v44_0
  rw [List.drop_zero, List.take_of_length_le (by decide +kernel)] at h
  exact h
set_option maxRecDepth 100000 in
theorem am_v45 : am_t45.all (am_ck 45) = true := by
  have h := am_v45_0
  rw [List.drop_zero, List.take_of_length_le (by decide +kernel)] at h
  exact h
set_option maxRecDepth 100000 in
theorem am_v46 : am_t46.all (am_ck 46) = true := by
  have h := am_v46_0
  rw [List.drop_zero, List.take_of_length_le (by decide +kernel)] at h
  exact h
set_option maxRecDepth 100000 in
theorem am_v47 : am_t47.all (am_ck 47) = true := by
  have h := am_v47_0
  rw [List.drop_zero, List.take_of_length_le (by decide +kernel)] at h
  exact h
set_option maxRecDepth 100000 in
theorem am_v48 : am_t48.all (am_ck 48) = true := by
  have h := am_v48_0
  rw [List.drop_zero, List.take_of_length_le (by decide +kernel)] at h
  exact h
set_option maxRecDepth 100000 in
theorem am_v49 : am_t49.all (am_ck 49) = true := by
  have h := am_v49_0
  rw [List.drop_zero, List.take_of_length_le (by decide +kernel)] at h
  exact h
set_option maxRecDepth 100000 in
theorem am_v50 : am_t50.all (am_ck 50) = true := by
  have h := am_v50_0
  rw [List.drop_zero, List.take_of_length_le (by decide +kernel)] at h
  exact h
set_option maxRecDepth 100000 in
theorem am_v51 : am_t51.all (am_ck 51) = true := by
  have h := am_v51_0
  rw [List.drop_zero, List.take_of_length_le (by decide +kernel)] at h
  exact h
set_option maxRecDepth 100000 in
theorem am_v52 : am_t52.all (am_ck 52) = true := by
  have h := am_v52_0
  rw [List.drop_zero, List.take_of_length_le (by decide +kernel)] at h
  exact h
set_option maxRecDepth 100000 in
theorem am_v53 : am_t53.all (am_ck 53) = true := by
  have h := am_v53_0
  rw [List.drop_zero, List.take_of_length_le (by decide +kernel)] at h
  exact h
set_option maxRecDepth 100000 in
theorem am_v54 : am_t54.all (am_ck 54) = true := by
  have h := am_v54_0
  rw [List.drop_zero, List.take_of_length_le (by decide +kernel)] at h
  exact h
set_option maxRecDepth 100000 in
theorem am_v55 : am_t55.all (am_ck 55) = true := by
  have h := am_v55_0
  rw [List.drop_zero, List.take_of_length_le (by decide +kernel)] at h
  exact h
set_option maxRecDepth 100000 in
theorem am_v56 : am_t56.all (am_ck 56) = true := by
  have h := am_v56_0
  rw [List.drop_zero, List.take_of_length_le (by decide +kernel)] at h
  exact h
set_option maxRecDepth 100000 in
theorem am_v57 : am_t57.all (am_ck 57) = true := by
  have h := am_v57_0
  rw [List.drop_zero, List.take_of_length_le (by decide +kernel)] at h
  exact h
set_option maxRecDepth 100000 in
theorem am_v58 : am_t58.all (am_ck 58) = true := by
  have h := am_v58_0
  rw [List.drop_zero, List.take_of_length_le (by decide +kernel)] at h
  exact h
set_option maxRecDepth 100000 in
theorem am_v59 : am_t59.all (am_ck 59) = true := by
  have h := am_v59_0
  rw [List.drop_zero, List.take_of_length_le (by decide +kernel)] at h
  exact h
set_option maxRecDepth 100000 in
theorem am_v60 : am_t60.all (am_ck 60) = true := by
  have h := am_v60_0
  rw [List.drop_zero, List.take_of_length_le (by decide +kernel)] at h
  exact h
set_option maxRecDepth 100000 in
theorem am_v61 : am_t61.all (am_ck 61) = true := by
  have h := am_v61_0
  rw [List.drop_zero, List.take_of_length_le (by decide +kernel)] at h
  exact h
set_option maxRecDepth 100000 in
theorem am_v62 : am_t62.all (am_ck 62) = true := by
  have h := am_v62_0
  rw [List.drop_zero, List.take_of_length_le (by decide +kernel)] at h
  exact h
set_option maxRecDepth 100000 in
theorem am_v63 : am_t63.all (am_ck 63) = true := by
  have h := am_v63_0
  rw [List.drop_zero, List.take_of_length_le (by decide +kernel)] at h
  exact h
set_option maxRecDepth 100000 in
theorem am_v64 : am_t64.all (am_ck 64) = true := by
  have h := am_v64_0
  rw [List.drop_zero, List.take_of_length_le (by decide +kernel)] at h
  exact h
set_option maxRecDepth 100000 in
theorem am_v65 : am_t65.all (am_ck 65) = true := by
  have h := am_v65_0
  rw [List.drop_zero, List.take_of_length_le (by decide +kernel)] at h
  exact h
set_option maxRecDepth 100000 in
theorem am_v66 : am_t66.all (am_ck 66) = true := by
  have h := am_v66_0
  rw [List.drop_zero, List.take_of_length_le (by decide +kernel)] at h
  exact h
set_option maxRecDepth 100000 in
theorem am_v67 : am_t67.all (am_ck 67) = true := by
  have h := am_v67_0
  rw [List.drop_zero, List.take_of_length_le (by decide +kernel)] at h
  exact h
set_option maxRecDepth 100000 in
theorem am_v68 : am_t68.all (am_ck 68) = true := by
  have h := am_v68_0
  rw [List.drop_zero, List.take_of_length_le (by decide +kernel)] at h
  exact h
set_option maxRecDepth 100000 in
theorem am_v69 : am_t69.all (am_ck 69) = true := by
  have h := am_v69_0
  rw [List.drop_zero, List.take_of_length_le (by decide +kernel)] at h
  exact h
set_option maxRecDepth 100000 in
theorem am_v70 : am_t70.all (am_ck 70) = true := by
  have h := am_v70_0
  rw [List.drop_zero, List.take_of_length_le (by decide +kernel)] at h
  exact h
set_option maxRecDepth 100000 in
theorem am_v71 : am_t71.all (am_ck 71) = true := by
  have h := am_v71_0
  rw [List.drop_zero, List.take_of_length_le (by decide +kernel)] at h
  exact h
set_option maxRecDepth 100000 in
theorem am_v72 : am_t72.all (am_ck 72) = true := by
  have h := am_v72_0
  rw [List.drop_zero, List.take_of_length_le (by decide +kernel)] at h
  exact h
set_option maxRecDepth 100000 in
theorem am_v73 : am_t73.all (am_ck 73) = true := by
  have h := am_v73_0
  rw [List.drop_zero, List.take_of_length_le (by decide +kernel)] at h
  exact h
set_option maxRecDepth 100000 in
theorem am_v74 : am_t74.all (am_ck 74) = true := by
  have h := am_v74_0
  rw [List.drop_zero, List.take_of_length_le (by decide +kernel)] at h
  exact h
set_option maxRecDepth 100000 in
theorem am_v75 : am_t75.all (am_ck 75) = true := by
  have h := am_v75_0
  rw [List.drop_zero, List.take_of_length_le (by decide +kernel)] at h
  exact h
set_option maxRecDepth 100000 in
theorem am_v76 : am_t76.all (am_ck 76) = true := by
  have h := am_v76_0
  rw [List.drop_zero, List.take_of_length_le (by decide +kernel)] at h
  exact h
set_option maxRecDepth 100000 in
theorem am_v77 : am_t77.all (am_ck 77) = true := by
  have h := am_v77_0
  rw [List.drop_zero, List.take_of_length_le (by decide +kernel)] at h
  exact h
set_option maxRecDepth 100000 in
theorem am_v78 : am_t78.all (am_ck 78) = true := by
  have h := am_v78_0
  rw [List.drop_zero, List.take_of_length_le (by decide +kernel)] at h
  exact h
set_option maxRecDepth 100000 in
theorem am_v79 : am_t79.all (am_ck 79) = true := by
  have h := am_v79_0
  rw [List.drop_zero, List.take_of_length_le (by decide +kernel)] at h
  exact h
set_option maxRecDepth 100000 in
theorem am_v80 : am_t80.all (am_ck 80) = true := by
  have h := am_v80_0
  rw [List.drop_zero, List.take_of_length_le (by decide +kernel)] at h
  exact h
set_option maxRecDepth 100000 in
theorem am_v81 : am_t81.all (am_ck 81) = true := by
  have h := am_v81_0
  rw [List.drop_zero, List.take_of_length_le (by decide +kernel)] at h
  exact h
set_option maxRecDepth 100000 in
theorem am_v82 : am_t82.all (am_ck 82) = true := by
  have h := am_v82_0
  rw [List.drop_zero, List.take_of_length_le (by decide +kernel)] at h
  exact h
set_option maxRecDepth 100000 in
theorem am_v83 : am_t83.all (am_ck 83) = true := by
  have h := am_v83_0
  rw [List.drop_zero, List.take_of_length_le (by decide +kernel)] at h
  exact h
set_option maxRecDepth 100000 in
theorem am_v84 : am_t84.all (am_ck 84) = true := by
  have h := am_v84_0
  rw [List.drop_zero, List.take_of_length_le (by decide +kernel)] at h
  exact h
set_option maxRecDepth 100000 in
theorem am_v85 : am_t85.all (am_ck 85) = true := by
  have h := am_v85_0
  rw [List.drop_zero, List.take_of_length_le (by decide +kernel)] at h
  exact h
set_option maxRecDepth 100000 in
theorem am_v86 : am_t86.all (am_ck 86) = true := by
  have h := am_v86_0
  rw [List.drop_zero, List.take_of_length_le (by decide +kernel)] at h
  exact h
set_option maxRecDepth 100000 in
theorem am_v87 : am_t87.all (am_ck 87) = true := by
  have h := am_v87_0
  rw [List.drop_zero, List.take_of_length_le (by decide +kernel)] at h
  exact h
set_option maxRecDepth 100000 in
theorem am_v88 : am_t88.all (am_ck 88) = true := by
  have h := am_v88_0
  rw [List.drop_zero, List.take_of_length_le (by decide +kernel)] at h
  exact h
set_option maxRecDepth 100000 in
theorem am_v89 : am_t89.all (am_ck 89) = true := by
  have h := am_v89_0
  rw [List.drop_zero, List.take_of_length_le (by decide +kernel)] at h
  exact h
set_option maxRecDepth 100000 in
theorem am_v90 : am_t90.all (am_ck 90) = true := by
  have h := am_v90_0
  rw [List.drop_zero, List.take_of_length_le (by decide +kernel)] at h
  exact h
set_option maxRecDepth 100000 in
theorem am_v91 : am_t91.all (am_ck 91) = true := by
  have h := am_v91_0
  rw [List.drop_zero, List.take_of_length_le (by decide +kernel)] at h
  exact h
set_option maxRecDepth 100000 in
theorem am_v92 : am_t92.all (am_ck 92) = true := by
  have h := am_v92_0
  rw [List.drop_zero, List.take_of_length_le (by decide +kernel)] at h
  exact h
set_option maxRecDepth 100000 in
theorem am_v93 : am_t93.all (am_ck 93) = true := by
  have h60 : (am_t93.drop 60).all (am_ck 93) = true := by
    have h := am_v93_60
    rw [List.take_of_length_le (by decide +kernel)] at h
    exact h
  have h0 : (am_t93.drop 0).all (am_ck 93) = true := am_all_split 60 am_v93_0 (by rw [List.drop_drop]; exact h60)
  rw [List.drop_zero] at h0
  exact h0
set_option maxRecDepth 100000 in
theorem am_v94 : am_t94.all (am_ck 94) = true := by
  have h := am_v94_0
  rw [List.drop_zero, List.take_of_length_le (by decide +kernel)] at h
  exact h
set_option maxRecDepth 100000 in
theorem am_v95 : am_t95.all (am_ck 95) = true := by
  have h := am_v95_0
  rw [List.drop_zero, List.take_of_length_le (by decide +kernel)] at h
  exact h
set_option maxRecDepth 100000 in
theorem am_v96 : am_t96.all (am_ck 96) = true := by
  have h := am_v96_0
  rw [List.drop_zero, List.take_of_length_le (by decide +kernel)] at h
  exact h
set_option maxRecDepth 100000 in
theorem am_v97 : am_t97.all (am_ck 97) = true := by
  have h := am_v97_0
  rw [List.drop_zero, List.take_of_length_le (by decide +kernel)] at h
  exact h
set_option maxRecDepth 100000 in
theorem am_v98 : am_t98.all (am_ck 98) = true := by
  have h120 : (am_t98.drop 120).all (am_ck 98) = true := by
    have h := am_v98_120
    rw [List.take_of_length_le (by decide +kernel)] at h
    exact h
  have h60 : (am_t98.drop 60).all (am_ck 98) = true := am_all_split 60 am_v98_60 (by rw [List.drop_drop]; exact h120)
  have h0 : (am_t98.drop 0).all (am_ck 98) = true := am_all_split 60 am_v98_0 (by rw [List.drop_drop]; exact h60)
  rw [List.drop_zero] at h0
  exact h0
set_option maxRecDepth 100000 in
theorem am_v99 : am_t99.all (am_ck 99) = true := by
  have h := am_v99_0
  rw [List.drop_zero, List.take_of_length_le (by decide +kernel)] at h
  exact h
set_option maxRecDepth 100000 in
theorem am_v100 : am_t100.all (am_ck 100) = true := by
  have h := am_v100_0
  rw [List.drop_zero, List.take_of_length_le (by decide +kernel)] at h
  exact h
set_option maxRecDepth 100000 in
theorem am_v101 : am_t101.all (am_ck 101) = true := by
  have h60 : (am_t101.drop 60).all (am_ck 101) = true := by
    have h := am_v101_60
    rw [List.take_of_length_le (by decide +kernel)] at h
    exact h
  have h0 : (am_t101.drop 0).all (am_ck 101) = true := am_all_split 60 am_v101_0 (by rw [List.drop_drop]; exact h60)
  rw [List.drop_zero] at h0
  exact h0
set_option maxRecDepth 100000 in
theorem am_v102 : am_t102.all (am_ck 102) = true := by
  have h := am_v102_0
  rw [List.drop_zero, List.take_of_length_le (by decide +kernel)] at h
  exact h
set_option maxRecDepth 100000 in
theorem am_v103 : am_t103.all (am_ck 103) = true := by
  have h := am_v103_0
  rw [List.drop_zero, List.take_of_length_le (by decide +kernel)] at h
  exact h
set_option maxRecDepth 100000 in
theorem am_v104 : am_t104.all (am_ck 104) = true := by
  have h120 : (am_t104.drop 120).all (am_ck 104) = true := by
    have h := am_v104_120
    rw [List.take_of_length_le (by decide +kernel)] at h
    exact h
  have h60 : (am_t104.drop 60).all (am_ck 104) = true := am_all_split 60 am_v104_60 (by rw [List.drop_drop]; exact h120)
  have h0 : (am_t104.drop 0).all (am_ck 104) = true := am_all_split 60 am_v104_0 (by rw [List.drop_drop]; exact h60)
  rw [List.drop_zero] at h0
  exact h0
set_option maxRecDepth 100000 in
theorem am_v105 : am_t105.all (am_ck 105) = true := by
  have h := am_v105_0
  rw [List.drop_zero, List.take_of_length_le (by decide +kernel)] at h
  exact h
set_option maxRecDepth 100000 in
theorem am_v106 : am_t106.all (am_ck 106) = true := by
  have h := am_v106_0
  rw [List.drop_zero, List.take_of_length_le (by decide +kernel)] at h
  exact h
set_option maxRecDepth 100000 in
theorem am_v107 : am_t107.all (am_ck 107) = true := by
  have h := am_v107_0
  rw [List.drop_zero, List.take_of_length_le (by decide +kernel)] at h
  exact h
set_option maxRecDepth 100000 in
theorem am_v108 : am_t108.all (am_ck 108) = true := by
  have h := am_v108_0
  rw [List.drop_zero, List.take_of_length_le (by decide +kernel)] at h
  exact h
set_option maxRecDepth 100000 in
theorem am_v109 : am_t109.all (am_ck 109) = true := by
  have h := am_v109_0
  rw [List.drop_zero, List.take_of_length_le (by decide +kernel)] at h
  exact h
set_option maxRecDepth 100000 in
theorem am_v110 : am_t110.all (am_ck 110) = true := by
  have h := am_v110_0
  rw [List.drop_zero, List.take_of_length_le (by decide +kernel)] at h
  exact h
set_option maxRecDepth 100000 in
theorem am_v111 : am_t111.all (am_ck 111) = true := by
  have h := am_v111_0
  rw [List.drop_zero, List.take_of_length_le (by decide +kernel)] at h
  exact h
set_option maxRecDepth 100000 in
theorem am_v112 : am_t112.all (am_ck 112) = true := by
  have h := am_v112_0
  rw [List.drop_zero, List.take_of_length_le (by decide +kernel)] at h
  exact h
set_option maxRecDepth 100000 in
theorem am_v113 : am_t113.all (am_ck 113) = true := by
  have h := am_v113_0
  rw [List.drop_zero, List.take_of_length_le (by decide +kernel)] at h
  exact h
set_option maxRecDepth 100000 in
theorem am_v114 : am_t114.all (am_ck 114) = true := by
  have h := am_v114_0
  rw [List.drop_zero, List.take_of_length_le (by decide +kernel)] at h
  exact h
set_option maxRecDepth 100000 in
theorem am_v115 : am_t115.all (am_ck 115) = true := by
  have h := am_v115_0
  rw [List.drop_zero, List.take_of_length_le (by decide +kernel)] at h
  exact h
set_option maxRecDepth 100000 in
theorem am_v116 : am_t116.all (am_ck 116) = true := by
  have h60 : (am_t116.drop 60).all (am_ck 116) = true := by
    have h := am_v116_60
    rw [List.take_of_length_le (by decide +kernel)] at h
    exact h
  have h0 : (am_t116.drop 0).all (am_ck 116) = true := am_all_split 60 am_v116_0 (by rw [List.drop_drop]; exact h60)
  rw [List.drop_zero] at h0
  exact h0
set_option maxRecDepth 100000 in
theorem am_v117 : am_t117.all (am_ck 117) = true := by
  have h := am_v117_0
  rw [List.drop_zero, List.take_of_length_le (by decide +kernel)] at h
  exact h
set_option maxRecDepth 100000 in
theorem am_v118 : am_t118.all (am_ck 118) = true := by
  have h := am_v118_0
  rw [List.drop_zero, List.take_of_length_le (by decide +kernel)] at h
  exact h
set_option maxRecDepth 100000 in
theorem am_v119 : am_t119.all (am_ck 119) = true := by
  have h := am_v119_0
  rw [List.drop_zero, List.take_of_length_le (by decide +kernel)] at h
  exact h
set_option maxRecDepth 100000 in
theorem am_v120 : am_t120.all (am_ck 120) = true := by
  have h := am_v120_0
  rw [List.drop_zero, List.take_of_length_le (by decide +kernel)] at h
  exact h
set_option maxRecDepth 100000 in
theorem am_v121 : am_t121.all (am_ck 121) = true := by
  have h := am_v121_0
  rw [List.drop_zero, List.take_of_length_le (by decide +kernel)] at h
  exact h
set_option maxRecDepth 100000 in
theorem am_v122 : am_t122.all (am_ck 122) = true := by
  have h := am_v122_0
  rw [List.drop_zero, List.take_of_length_le (by decide +kernel)] at h
  exact h
set_option maxRecDepth 100000 in
theorem am_v123 : am_t123.all (am_ck 123) = true := by
  have h := am_v123_0
  rw [List.drop_zero, List.take_of_length_le (by decide +kernel)] at h
  exact h
set_option maxRecDepth 100000 in
theorem am_v124 : am_t124.all (am_ck 124) = true := by
  have h60 : (am_t124.drop 60).all (am_ck 124) = true := by
    have h := am_v124_60
    rw [List.take_of_length_le (by decide +kernel)] at h
    exact h
  have h0 : (am_t124.drop 0).all (am_ck 124) = true := am_all_split 60 am_v124_0 (by rw [List.drop_drop]; exact h60)
  rw [List.drop_zero] at h0
  exact h0
set_option maxRecDepth 100000 in
theorem am_v125 : am_t125.all (am_ck 125) = true := by
  have h := am_v125_0
  rw [List.drop_zero, List.take_of_length_le (by decide +kernel)] at h
  exact h
set_option maxRecDepth 100000 in
theorem am_v126 : am_t126.all (am_ck 126) = true := by
  have h := am_v126_0
  rw [List.drop_zero, List.take_of_length_le (by decide +kernel)] at h
  exact h
set_option maxRecDepth 100000 in
theorem am_v127 : am_t127.all (am_ck 127) = true := by
  have h := am_v127_0
  rw [List.drop_zero, List.take_of_length_le (by decide +kernel)] at h
  exact h
set_option maxRecDepth 100000 in
theorem am_v128 : am_t128.all (am_ck 128) = true := by
  have h := am_v128_0
  rw [List.drop_zero, List.take_of_length_le (by decide +kernel)] at h
  exact h
set_option maxRecDepth 100000 in
theorem am_v129 : am_t129.all (am_ck 129) = true := by
  have h := am_v129_0
  rw [List.drop_zero, List.take_of_length_le (by decide +kernel)] at h
  exact h
set_option maxRecDepth 100000 in
theorem am_v130 : am_t130.all (am_ck 130) = true := by
  have h := am_v130_0
  rw [List.drop_zero, List.take_of_length_le (by decide +kernel)] at h
  exact h
set_option maxRecDepth 100000 in
theorem am_v131 : am_t131.all (am_ck 131) = true := by
  have h := am_v131_0
  rw [List.drop_zero, List.take_of_length_le (by decide +kernel)] at h
  exact h
set_option maxRecDepth 100000 in
theorem am_v132 : am_t132.all (am_ck 132) = true := by
  have h := am_v132_0
  rw [List.drop_zero, List.take_of_length_le (by decide +kernel)] at h
  exact h
set_option maxRecDepth 100000 in
theorem am_v133 : am_t133.all (am_ck 133) = true := by
  have h := am_v133_0
  rw [List.drop_zero, List.take_of_length_le (by decide +kernel)] at h
  exact h
set_option maxRecDepth 100000 in
theorem am_v134 : am_t134.all (am_ck 134) = true := by
  have h := am_v134_0
  rw [List.drop_zero, List.take_of_length_le (by decide +kernel)] at h
  exact h
set_option maxRecDepth 100000 in
theorem am_v135 : am_t135.all (am_ck 135) = true := by
  have h := am_v135_0
  rw [List.drop_zero, List.take_of_length_le (by decide +kernel)] at h
  exact h
set_option maxRecDepth 100000 in
theorem am_v136 : am_t136.all (am_ck 136) = true := by
  have h := am_v136_0
  rw [List.drop_zero, List.take_of_length_le (by decide +kernel)] at h
  exact h
set_option maxRecDepth 100000 in
theorem am_v137 : am_t137.all (am_ck 137) = true := by
  have h := am_v137_0
  rw [List.drop_zero, List.take_of_length_le (by decide +kernel)] at h
  exact h
set_option maxRecDepth 100000 in
theorem am_v138 : am_t138.all (am_ck 138) = true := by
  have h := am_v138_0
  rw [List.drop_zero, List.take_of_length_le (by decide +kernel)] at h
  exact h
set_option maxRecDepth 100000 in
theorem am_v139 : am_t139.all (am_ck 139) = true := by
  have h := am_v139_0
  rw [List.drop_zero, List.take_of_length_le (by decide +kernel)] at h
  exact h
set_option maxRecDepth 100000 in
theorem am_v140 : am_t140.all (am_ck 140) = true := by
  have h60 : (am_t140.drop 60).all (am_ck 140) = true := by
    have h := am_v140_60
    rw [List.take_of_length_le (by decide +kernel)] at h
    exact h
  have h0 : (am_t140.drop 0).all (am_ck 140) = true := am_all_split 60 am_v140_0 (by rw [List.drop_drop]; exact h60)
  rw [List.drop_zero] at h0
  exact h0
set_option maxRecDepth 100000 in
theorem am_v141 : am_t141.all (am_ck 141) = true := by
  have h := am_v141_0
  rw [List.drop_zero, List.take_of_length_le (by decide +kernel)] at h
  exact h
set_option maxRecDepth 100000 in
theorem am_v142 : am_t142.all (am_ck 142) = true := by
  have h := am_v142_0
  rw [List.drop_zero, List.take_of_length_le (by decide +kernel)] at h
  exact h
set_option maxRecDepth 100000 in
theorem am_v143 : am_t143.all (am_ck 143) = true := by
  have h360 : (am_t143.drop 360).all (am_ck 143) = true := by
    have h := am_v143_360
    rw [List.take_of_length_le (by decide +kernel)] at h
    exact h
  have h300 : (am_t143.drop 300).all (am_ck 143) = true := am_all_split 60 am_v143_300 (by rw [List.drop_drop]; exact h360)
  have h240 : (am_t143.drop 240).all (am_ck 143) = true := am_all_split 60 am_v143_240 (by rw [List.drop_drop]; exact h300)
  have h180 : (am_t143.drop 180).all (am_ck 143) = true := am_all_split 60 am_v143_180 (by rw [List.drop_drop]; exact h240)
  have h120 : (am_t143.drop 120).all (am_ck 143) = true := am_all_split 60 am_v143_120 (by rw [List.drop_drop]; exact h180)
  have h60 : (am_t143.drop 60).all (am_ck 143) = true := am_all_split 60 am_v143_60 (by rw [List.drop_drop]; exact h120)
  have h0 : (am_t143.drop 0).all (am_ck 143) = true := am_all_split 60 am_v143_0 (by rw [List.drop_drop]; exact h60)
  rw [List.drop_zero] at h0
  exact h0
def am_good (q : List (Nat × am_I) × Nat) : Prop := q.1.all (am_ck q.2) = true
theorem am_vall : ∀ j, j < 144 → (am_tabs.getD j []).all (am_ck j) = true := by
  intro j hj
  match j, hj with
  | 0, _ => exact am_v0
  | 1, _ => exact am_v1
  | 2, _ => exact am_v2
  | 3, _ => exact am_v3
  | 4, _ => exact am_v4
  | 5, _ => exact am_v5
  | 6, _ => exact am_v6
  | 7, _ => exact am_v7
  | 8, _ => exact am_v8
  | 9, _ => exact am_v9
  | 10, _ => exact am_v10
  | 11, _ => exact am_v11
  | 12, _ => exact am_v12
  | 13, _ => exact am_v13
  | 14, _ => exact am_v14
  | 15, _ => exact am_v15
  | 16, _ => exact am_v16
  | 17, _ => exact am_v17
  | 18, _ => exact am_v18
  | 19, _ => exact am_v19
  | 20, _ => exact am_v20
  | 21, _ => exact am_v21
  | 22, _ => exact am_v22
  | 23, _ => exact am_v23
  | 24, _ => exact am_v24
  | 25, _ => exact am_v25
  | 26, _ => exact am_v26
  | 27, _ => exact am_v27
  | 28, _ => exact am_v28
  | 29, _ => exact am_v29
  | 30, _ => exact am_v30
  | 31, _ => exact am_v31
  | 32, _ => exact am_v32
  | 33, _ => exact am_v33
  | 34, _ => exact am_v34
  | 35, _ => exact am_v35
  | 36, _ => exact am_v36
  | 37, _ => exact am_v37
  | 38, _ => exact am_v38
  | 39, _ => exact am_v39
  | 40, _ => exact am_v40
  | 41, _ => exact am_v41
  | 42, _ => exact am_v42
  | 43, _ => exact am_v43
  | 44, _ => exact am_v44
  | 45, _ => exact am_v45
  | 46, _ => exact am_v46
  | 47, _ => exact am_v47
  | 48, _ => exact am_v48
  | 49, _ => exact am_v49
  | 50, _ => exact am_v50
  | 51, _ => exact am_v51
  | 52, _ => exact am_v52
  | 53, _ => exact am_v53
  | 54, _ => exact am_v54
  | 55, _ => exact am_v55
  | 56, _ => exact am_v56
  | 57, _ => exact am_v57
  | 58, _ => exact am_v58
  | 59, _ => exact am_v59
  | 60, _ => exact am_v60
  | 61, _ => exact am_v61
  | 62, _ => exact am_v62
  | 63, _ => exact am_v63
  | 64, _ => exact am_v64
  | 65, _ => exact am_v65
  | 66, _ => exact am_v66
  | 67, _ => exact am_v67
  | 68, _ => exact am_v68
  | 69, _ => exact am_v69
  | 70, _ => exact am_v70
  | 71, _ => exact am_v71
  | 72, _ => exact am_v72
  | 73, _ => exact am_v73
  | 74, _ => exact am_v74
  | 75, _ => exact am_v75
  | 76, _ => exact am_v76
  | 77, _ => exact am_v77
  | 78, _ => exact am_v78
  | 79, _ => exact am_v79
  | 80, _ => exact am_v80
  | 81, _ => exact am_v81
  | 82, _ => exact am_v82
  | 83, _ => exact am_v83
  | 84, _ => exact am_v84
  | 85, _ => exact am_v85
  | 86, _ => exact am_v86
  | 87, _ => exact am_v87
  | 88, _ => exact am_v88
  | 89, _ => exact am_v89
  | 90, _ => exact am_v90
  | 91, _ => exact am_v91
  | 92, _ => exact am_v92
  | 93, _ => exact am_v93
  | 94, _ => exact am_v94
  | 95, _ => exact am_v95
  | 96, _ => exact am_v96
  | 97, _ => exact am_v97
  | 98, _ => exact am_v98
  | 99, _ => exact am_v99
  | 100, _ => exact am_v100
  | 101, _ => exact am_v101
  | 102, _ => exact am_v102
  | 103, _ => exact am_v103
  | 104, _ => exact am_v104
  | 105, _ => exact am_v105
  | 106, _ => exact am_v106
  | 107, _ => exact am_v107
  | 108, _ => exact am_v108
  | 109, _ => exact am_v109
  | 110, _ => exact am_v110
  | 111, _ => exact am_v111
  | 112, _ => exact am_v112
  | 113, _ => exact am_v113
  | 114, _ => exact am_v114
  | 115, _ => exact am_v115
  | 116, _ => exact am_v116
  | 117, _ => exact am_v117
  | 118, _ => exact am_v118
  | 119, _ => exact am_v119
  | 120, _ => exact am_v120
  | 121, _ => exact am_v121
  | 122, _ => exact am_v122
  | 123, _ => exact am_v123
  | 124, _ => exact am_v124
  | 125, _ => exact am_v125
  | 126, _ => exact am_v126
  | 127, _ => exact am_v127
  | 128, _ => exact am_v128
  | 129, _ => exact am_v129
  | 130, _ => exact am_v130
  | 131, _ => exact am_v131
  | 132, _ => exact am_v132
  | 133, _ => exact am_v133
  | 134, _ => exact am_v134
  | 135, _ => exact am_v135
  | 136, _ => exact am_v136
  | 137, _ => exact am_v137
  | 138, _ => exact am_v138
  | 139, _ => exact am_v139
  | 140, _ => exact am_v140
  | 141, _ => exact am_v141
  | 142, _ => exact am_v142
  | 143, _ => exact am_v143
  | n + 144, h => exact absurd h (by omega)
theorem am_lookup_mem : ∀ (t : List (Nat × am_I)) (pc : Nat) (q : am_I), t.lookup pc = some q → (pc, q) ∈ t
  | [], _, _, h => by cases h
  | (a, b) :: t, pc, q, h => by
    rw [List.lookup_cons] at h
    split at h
    · rename_i he
      have e1 : pc = a := by simpa using he
      cases h
      rw [e1]
      exact List.mem_cons_self
    · exact List.mem_cons_of_mem _ (am_lookup_mem t pc q h)
theorem am_all {j pc : Nat} {i : Instr} {l x y : Nat} {c : Int32} {ts : List Nat} (h : am_cd j pc = some (i, l, x, y, c, ts)) : decode (am_by j) pc = .ok (i, l) ∧ am_vb j pc (i, l, x, y, c, ts) = true := by
  have hj : j < 144 := by
    rcases Nat.lt_or_ge j 144 with g | g
    · exact g
    · exfalso
      unfold am_cd at h
      have hl : am_tabs.length = 144 := by decide +kernel
      rw [List.getD_eq_getElem?_getD, List.getElem?_eq_none (by omega)] at h
      cases h
  have h1 := List.all_eq_true.mp (am_vall j hj) _ (am_lookup_mem _ _ _ h)
  simp only [am_ck, Bool.and_eq_true, decide_eq_true_eq] at h1
  exact h1
