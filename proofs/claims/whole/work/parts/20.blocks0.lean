/-! BLOCK LEMMAS, written by gen4.py out of the decode rows: what each stretch of a method does -/
theorem v1 : 0 < 12 ∧ (vm_F 0).1 = (vm_y 1).cls := by decide +kernel
theorem v2 : 0 < 12 ∧ (vm_F 0).1 = (vm_y 2).cls := by decide +kernel
theorem v3 : 0 < 12 ∧ (vm_F 0).1 = (vm_y 3).cls := by decide +kernel
theorem v4 : 0 < 12 ∧ (vm_F 0).1 = (vm_y 4).cls := by decide +kernel
theorem v5 : 0 < 12 ∧ (vm_F 0).1 = (vm_y 5).cls := by decide +kernel
theorem v6 : 0 < 12 ∧ (vm_F 0).1 = (vm_y 6).cls := by decide +kernel
theorem v7 : 0 < 12 ∧ (vm_F 0).1 = (vm_y 7).cls := by decide +kernel
theorem v8 : 0 < 12 ∧ (vm_F 0).1 = (vm_y 8).cls := by decide +kernel
theorem v9 : 0 < 12 ∧ (vm_F 0).1 = (vm_y 9).cls := by decide +kernel
theorem v10 : 0 < 12 ∧ (vm_F 0).1 = (vm_y 10).cls := by decide +kernel
theorem v11 : 0 < 12 ∧ (vm_F 0).1 = (vm_y 11).cls := by decide +kernel
theorem v12 : 0 < 12 ∧ (vm_F 0).1 = (vm_y 12).cls := by decide +kernel
theorem v13 : 0 < 12 ∧ (vm_F 0).1 = (vm_y 13).cls := by decide +kernel
theorem v14 : 0 < 12 ∧ (vm_F 0).1 = (vm_y 14).cls := by decide +kernel
theorem v15 : 0 < 12 ∧ (vm_F 0).1 = (vm_y 15).cls := by decide +kernel
theorem v16 : 0 < 12 ∧ (vm_F 0).1 = (vm_y 16).cls := by decide +kernel
theorem v17 : 0 < 12 ∧ (vm_F 0).1 = (vm_y 17).cls := by decide +kernel
theorem v18 : 0 < 12 ∧ (vm_F 0).1 = (vm_y 18).cls := by decide +kernel
theorem v19 : 0 < 12 ∧ (vm_F 0).1 = (vm_y 19).cls := by decide +kernel
theorem v20 : 0 < 12 ∧ (vm_F 0).1 = (vm_y 20).cls := by decide +kernel
theorem v21 : 0 < 12 ∧ (vm_F 0).1 = (vm_y 21).cls := by decide +kernel
theorem v22 : 0 < 12 ∧ (vm_F 0).1 = (vm_y 22).cls := by decide +kernel
theorem v23 : 0 < 12 ∧ (vm_F 0).1 = (vm_y 23).cls := by decide +kernel
theorem v24 : 0 < 12 ∧ (vm_F 0).1 = (vm_y 24).cls := by decide +kernel
theorem v25 : 0 < 12 ∧ (vm_F 0).1 = (vm_y 25).cls := by decide +kernel
theorem v29 : 1 < 12 ∧ (vm_F 1).1 = (vm_y 29).cls := by decide +kernel
theorem v30 : 1 < 12 ∧ (vm_F 1).1 = (vm_y 30).cls := by decide +kernel
theorem v31 : 1 < 12 ∧ (vm_F 1).1 = (vm_y 31).cls := by decide +kernel
theorem v32 : 1 < 12 ∧ (vm_F 1).1 = (vm_y 32).cls := by decide +kernel
theorem v33 : 1 < 12 ∧ (vm_F 1).1 = (vm_y 33).cls := by decide +kernel
theorem v34 : 1 < 12 ∧ (vm_F 1).1 = (vm_y 34).cls := by decide +kernel
theorem v36 : 2 < 12 ∧ (vm_F 2).1 = (vm_y 36).cls := by decide +kernel
theorem v37 : 2 < 12 ∧ (vm_F 2).1 = (vm_y 37).cls := by decide +kernel
theorem v38 : 2 < 12 ∧ (vm_F 2).1 = (vm_y 38).cls := by decide +kernel
theorem v39 : 2 < 12 ∧ (vm_F 2).1 = (vm_y 39).cls := by decide +kernel
theorem v40 : 2 < 12 ∧ (vm_F 2).1 = (vm_y 40).cls := by decide +kernel
theorem v41 : 2 < 12 ∧ (vm_F 2).1 = (vm_y 41).cls := by decide +kernel
theorem v42 : 2 < 12 ∧ (vm_F 2).1 = (vm_y 42).cls := by decide +kernel
theorem v43 : 2 < 12 ∧ (vm_F 2).1 = (vm_y 43).cls := by decide +kernel
theorem v49 : 3 < 12 ∧ (vm_F 3).1 = (vm_y 49).cls := by decide +kernel
theorem v50 : 3 < 12 ∧ (vm_F 3).1 = (vm_y 50).cls := by decide +kernel
theorem v57 : 4 < 12 ∧ (vm_F 4).1 = (vm_y 57).cls := by decide +kernel
theorem v58 : 4 < 12 ∧ (vm_F 4).1 = (vm_y 58).cls := by decide +kernel
theorem v59 : 4 < 12 ∧ (vm_F 4).1 = (vm_y 59).cls := by decide +kernel
theorem v60 : 4 < 12 ∧ (vm_F 4).1 = (vm_y 60).cls := by decide +kernel
theorem v61 : 4 < 12 ∧ (vm_F 4).1 = (vm_y 61).cls := by decide +kernel
theorem v62 : 4 < 12 ∧ (vm_F 4).1 = (vm_y 62).cls := by decide +kernel
theorem v63 : 4 < 12 ∧ (vm_F 4).1 = (vm_y 63).cls := by decide +kernel
theorem v64 : 4 < 12 ∧ (vm_F 4).1 = (vm_y 64).cls := by decide +kernel
theorem v65 : 4 < 12 ∧ (vm_F 4).1 = (vm_y 65).cls := by decide +kernel
theorem v69 : 5 < 12 ∧ (vm_F 5).1 = (vm_y 69).cls := by decide +kernel
theorem v70 : 5 < 12 ∧ (vm_F 5).1 = (vm_y 70).cls := by decide +kernel
theorem v71 : 5 < 12 ∧ (vm_F 5).1 = (vm_y 71).cls := by decide +kernel
theorem v72 : 5 < 12 ∧ (vm_F 5).1 = (vm_y 72).cls := by decide +kernel
theorem v73 : 5 < 12 ∧ (vm_F 5).1 = (vm_y 73).cls := by decide +kernel
theorem v74 : 5 < 12 ∧ (vm_F 5).1 = (vm_y 74).cls := by decide +kernel
theorem v76 : 5 < 12 ∧ (vm_F 5).1 = (vm_y 76).cls := by decide +kernel
theorem v77 : 5 < 12 ∧ (vm_F 5).1 = (vm_y 77).cls := by decide +kernel
theorem v78 : 5 < 12 ∧ (vm_F 5).1 = (vm_y 78).cls := by decide +kernel
theorem v79 : 5 < 12 ∧ (vm_F 5).1 = (vm_y 79).cls := by decide +kernel
theorem v80 : 5 < 12 ∧ (vm_F 5).1 = (vm_y 80).cls := by decide +kernel
theorem v81 : 5 < 12 ∧ (vm_F 5).1 = (vm_y 81).cls := by decide +kernel
theorem v82 : 5 < 12 ∧ (vm_F 5).1 = (vm_y 82).cls := by decide +kernel
theorem v83 : 5 < 12 ∧ (vm_F 5).1 = (vm_y 83).cls := by decide +kernel
theorem v85 : 6 < 12 ∧ (vm_F 6).1 = (vm_y 85).cls := by decide +kernel
theorem v86 : 6 < 12 ∧ (vm_F 6).1 = (vm_y 86).cls := by decide +kernel
theorem v87 : 6 < 12 ∧ (vm_F 6).1 = (vm_y 87).cls := by decide +kernel
theorem v88 : 6 < 12 ∧ (vm_F 6).1 = (vm_y 88).cls := by decide +kernel
theorem v89 : 6 < 12 ∧ (vm_F 6).1 = (vm_y 89).cls := by decide +kernel
theorem v90 : 6 < 12 ∧ (vm_F 6).1 = (vm_y 90).cls := by decide +kernel
theorem v91 : 6 < 12 ∧ (vm_F 6).1 = (vm_y 91).cls := by decide +kernel
theorem v92 : 6 < 12 ∧ (vm_F 6).1 = (vm_y 92).cls := by decide +kernel
theorem v93 : 6 < 12 ∧ (vm_F 6).1 = (vm_y 93).cls := by decide +kernel
theorem v94 : 6 < 12 ∧ (vm_F 6).1 = (vm_y 94).cls := by decide +kernel
theorem v95 : 6 < 12 ∧ (vm_F 6).1 = (vm_y 95).cls := by decide +kernel
theorem v96 : 6 < 12 ∧ (vm_F 6).1 = (vm_y 96).cls := by decide +kernel
theorem v97 : 6 < 12 ∧ (vm_F 6).1 = (vm_y 97).cls := by decide +kernel
theorem v103 : 7 < 12 ∧ (vm_F 7).1 = (vm_y 103).cls := by decide +kernel
theorem v104 : 7 < 12 ∧ (vm_F 7).1 = (vm_y 104).cls := by decide +kernel
theorem v105 : 7 < 12 ∧ (vm_F 7).1 = (vm_y 105).cls := by decide +kernel
theorem v106 : 7 < 12 ∧ (vm_F 7).1 = (vm_y 106).cls := by decide +kernel
theorem v107 : 7 < 12 ∧ (vm_F 7).1 = (vm_y 107).cls := by decide +kernel
theorem v108 : 7 < 12 ∧ (vm_F 7).1 = (vm_y 108).cls := by decide +kernel
theorem v109 : 7 < 12 ∧ (vm_F 7).1 = (vm_y 109).cls := by decide +kernel
theorem v112 : 8 < 12 ∧ (vm_F 8).1 = (vm_y 112).cls := by decide +kernel
theorem v113 : 8 < 12 ∧ (vm_F 8).1 = (vm_y 113).cls := by decide +kernel
theorem v114 : 8 < 12 ∧ (vm_F 8).1 = (vm_y 114).cls := by decide +kernel
theorem v115 : 8 < 12 ∧ (vm_F 8).1 = (vm_y 115).cls := by decide +kernel
theorem v117 : 9 < 12 ∧ (vm_F 9).1 = (vm_y 117).cls := by decide +kernel
theorem v118 : 9 < 12 ∧ (vm_F 9).1 = (vm_y 118).cls := by decide +kernel
theorem v119 : 9 < 12 ∧ (vm_F 9).1 = (vm_y 119).cls := by decide +kernel
theorem v120 : 9 < 12 ∧ (vm_F 9).1 = (vm_y 120).cls := by decide +kernel
theorem v121 : 9 < 12 ∧ (vm_F 9).1 = (vm_y 121).cls := by decide +kernel
theorem v122 : 9 < 12 ∧ (vm_F 9).1 = (vm_y 122).cls := by decide +kernel
theorem v123 : 9 < 12 ∧ (vm_F 9).1 = (vm_y 123).cls := by decide +kernel
theorem v124 : 9 < 12 ∧ (vm_F 9).1 = (vm_y 124).cls := by decide +kernel
theorem v125 : 9 < 12 ∧ (vm_F 9).1 = (vm_y 125).cls := by decide +kernel
theorem v126 : 9 < 12 ∧ (vm_F 9).1 = (vm_y 126).cls := by decide +kernel
theorem v135 : 10 < 12 ∧ (vm_F 10).1 = (vm_y 135).cls := by decide +kernel
theorem v139 : 10 < 12 ∧ (vm_F 10).1 = (vm_y 139).cls := by decide +kernel
theorem v146 : 10 < 12 ∧ (vm_F 10).1 = (vm_y 146).cls := by decide +kernel
theorem v168 : 10 < 12 ∧ (vm_F 10).1 = (vm_y 168).cls := by decide +kernel
theorem v175 : 10 < 12 ∧ (vm_F 10).1 = (vm_y 175).cls := by decide +kernel
theorem v176 : 10 < 12 ∧ (vm_F 10).1 = (vm_y 176).cls := by decide +kernel
theorem v177 : 10 < 12 ∧ (vm_F 10).1 = (vm_y 177).cls := by decide +kernel
theorem v178 : 10 < 12 ∧ (vm_F 10).1 = (vm_y 178).cls := by decide +kernel
theorem v186 : 11 < 12 ∧ (vm_F 11).1 = (vm_y 186).cls := by decide +kernel
theorem v187 : 11 < 12 ∧ (vm_F 11).1 = (vm_y 187).cls := by decide +kernel
theorem v189 : 11 < 12 ∧ (vm_F 11).1 = (vm_y 189).cls := by decide +kernel
theorem v196 : 11 < 12 ∧ (vm_F 11).1 = (vm_y 196).cls := by decide +kernel
theorem v197 : 11 < 12 ∧ (vm_F 11).1 = (vm_y 197).cls := by decide +kernel
theorem v198 : 11 < 12 ∧ (vm_F 11).1 = (vm_y 198).cls := by decide +kernel
theorem v199 : 11 < 12 ∧ (vm_F 11).1 = (vm_y 199).cls := by decide +kernel
theorem v202 : 11 < 12 ∧ (vm_F 11).1 = (vm_y 202).cls := by decide +kernel
theorem v203 : 11 < 12 ∧ (vm_F 11).1 = (vm_y 203).cls := by decide +kernel
theorem v204 : 11 < 12 ∧ (vm_F 11).1 = (vm_y 204).cls := by decide +kernel
theorem v205 : 11 < 12 ∧ (vm_F 11).1 = (vm_y 205).cls := by decide +kernel
theorem v206 : 11 < 12 ∧ (vm_F 11).1 = (vm_y 206).cls := by decide +kernel
theorem v211 : 11 < 12 ∧ (vm_F 11).1 = (vm_y 211).cls := by decide +kernel
theorem v212 : 11 < 12 ∧ (vm_F 11).1 = (vm_y 212).cls := by decide +kernel
theorem v213 : 11 < 12 ∧ (vm_F 11).1 = (vm_y 213).cls := by decide +kernel
theorem v215 : 11 < 12 ∧ (vm_F 11).1 = (vm_y 215).cls := by decide +kernel
theorem v217 : 11 < 12 ∧ (vm_F 11).1 = (vm_y 217).cls := by decide +kernel
theorem v226 : 11 < 12 ∧ (vm_F 11).1 = (vm_y 226).cls := by decide +kernel
theorem v227 : 11 < 12 ∧ (vm_F 11).1 = (vm_y 227).cls := by decide +kernel
theorem v228 : 11 < 12 ∧ (vm_F 11).1 = (vm_y 228).cls := by decide +kernel
theorem v229 : 11 < 12 ∧ (vm_F 11).1 = (vm_y 229).cls := by decide +kernel
theorem v235 : 11 < 12 ∧ (vm_F 11).1 = (vm_y 235).cls := by decide +kernel
theorem v236 : 11 < 12 ∧ (vm_F 11).1 = (vm_y 236).cls := by decide +kernel
theorem v238 : 11 < 12 ∧ (vm_F 11).1 = (vm_y 238).cls := by decide +kernel
theorem v239 : 11 < 12 ∧ (vm_F 11).1 = (vm_y 239).cls := by decide +kernel
theorem v244 : 11 < 12 ∧ (vm_F 11).1 = (vm_y 244).cls := by decide +kernel
theorem v245 : 11 < 12 ∧ (vm_F 11).1 = (vm_y 245).cls := by decide +kernel
theorem v246 : 11 < 12 ∧ (vm_F 11).1 = (vm_y 246).cls := by decide +kernel
theorem v250 : 11 < 12 ∧ (vm_F 11).1 = (vm_y 250).cls := by decide +kernel
theorem v251 : 11 < 12 ∧ (vm_F 11).1 = (vm_y 251).cls := by decide +kernel
theorem v253 : 11 < 12 ∧ (vm_F 11).1 = (vm_y 253).cls := by decide +kernel
theorem v254 : 11 < 12 ∧ (vm_F 11).1 = (vm_y 254).cls := by decide +kernel
theorem v255 : 11 < 12 ∧ (vm_F 11).1 = (vm_y 255).cls := by decide +kernel
theorem v256 : 11 < 12 ∧ (vm_F 11).1 = (vm_y 256).cls := by decide +kernel
theorem v257 : 11 < 12 ∧ (vm_F 11).1 = (vm_y 257).cls := by decide +kernel
theorem v258 : 11 < 12 ∧ (vm_F 11).1 = (vm_y 258).cls := by decide +kernel
theorem v261 : 11 < 12 ∧ (vm_F 11).1 = (vm_y 261).cls := by decide +kernel
theorem v262 : 11 < 12 ∧ (vm_F 11).1 = (vm_y 262).cls := by decide +kernel
theorem v271 : 11 < 12 ∧ (vm_F 11).1 = (vm_y 271).cls := by decide +kernel
theorem v275 : 11 < 12 ∧ (vm_F 11).1 = (vm_y 275).cls := by decide +kernel
theorem vm_lk {q : Option (Nat × Nat × Nat × Nat × Nat × Nat × Nat)} {a b c d e f g : Nat} (h : q.map (fun w => [w.1, w.2.1, w.2.2.1, w.2.2.2.1, w.2.2.2.2.1, w.2.2.2.2.2.1, w.2.2.2.2.2.2]) = some [a, b, c, d, e, f, g]) : q = some (a, b, c, d, e, f, g) := by
  cases q with
  | none => cases h
  | some w =>
    obtain ⟨w1, w2, w3, w4, w5, w6, w7⟩ := w
    cases h
    rfl
theorem vm_fitr {x : Int} (h : 0 ≤ x) : vm_fit 2 (vR x) = some x := if_pos h
theorem vRefs_cpy {M : vM} {s0 d0 sp dp n : Nat} (h : vRefs M) (h1 : vFree d0) : vRefs (vm_cpy M s0 d0 sp dp n) := by
  have e : ∀ b, b ≠ d0 → vm_cpy M s0 d0 sp dp n b = M b := fun b hb => by
    funext q
    unfold vm_cpy
    rw [if_neg (fun x => hb x.1)]
  have e2 : ∀ b, b ∈ [3, 14, 33, 41, 58] → vm_cpy M s0 d0 sp dp n b = M b := fun b hb => e b (fun q => h1.1 (by rw [← q]; exact hb))
  refine ⟨fun q hq => ?_, ?_, ?_, ?_, ?_, ?_⟩
  · rw [e _ (h1.2 q hq)]; exact h.1 q hq
  · rw [e2 3 (by decide)]; exact h.2.1
  · rw [e2 14 (by decide)]; exact h.2.2.1
  · rw [e2 33 (by decide)]; exact h.2.2.2.1
  · rw [e2 41 (by decide)]; exact h.2.2.2.2.1
  · rw [e2 58 (by decide)]; exact h.2.2.2.2.2
