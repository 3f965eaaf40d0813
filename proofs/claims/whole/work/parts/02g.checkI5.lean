/-! CHECKS of the code: each table of instructions against the bytes (piece 5) -/
theorem okI_M_allowedIn : ∀ i e, cd_M_allowedIn i = some e → okI 233 i e = true := chk cd_M_allowedIn 137 (okI 233) (fun i h => by unfold cd_M_allowedIn; rw [h]; rfl) (by decide +kernel)
theorem okI_M_goesOn : ∀ i e, cd_M_goesOn i = some e → okI 234 i e = true := chk cd_M_goesOn 54 (okI 234) (fun i h => by unfold cd_M_goesOn; rw [h]; rfl) (by decide +kernel)
theorem okI_M_found : ∀ i e, cd_M_found i = some e → okI 235 i e = true := chk cd_M_found 82 (okI 235) (fun i h => by unfold cd_M_found; rw [h]; rfl) (by decide +kernel)
theorem okI_M_image : ∀ i e, cd_M_image i = some e → okI 236 i e = true := chk cd_M_image 50 (okI 236) (fun i h => by unfold cd_M_image; rw [h]; rfl) (by decide +kernel)
theorem okI_M_back : ∀ i e, cd_M_back i = some e → okI 237 i e = true := chk cd_M_back 50 (okI 237) (fun i h => by unfold cd_M_back; rw [h]; rfl) (by decide +kernel)
theorem okI_M_count : ∀ i e, cd_M_count i = some e → okI 238 i e = true := chk cd_M_count 148 (okI 238) (fun i h => by unfold cd_M_count; rw [h]; rfl) (by decide +kernel)
theorem okI_G_readLaw : ∀ i e, cd_G_readLaw i = some e → okI 239 i e = true := chk cd_G_readLaw 57 (okI 239) (fun i h => by unfold cd_G_readLaw; rw [h]; rfl) (by decide +kernel)
theorem okI_G_readClause : ∀ i e, cd_G_readClause i = some e → okI 240 i e = true := chk cd_G_readClause 127 (okI 240) (fun i h => by unfold cd_G_readClause; rw [h]; rfl) (by decide +kernel)
theorem okI_G_readCondition : ∀ i e, cd_G_readCondition i = some e → okI 241 i e = true := chk cd_G_readCondition 18 (okI 241) (fun i h => by unfold cd_G_readCondition; rw [h]; rfl) (by decide +kernel)
theorem okI_G_readUnit : ∀ i e, cd_G_readUnit i = some e → okI 242 i e = true := chk cd_G_readUnit 82 (okI 242) (fun i h => by unfold cd_G_readUnit; rw [h]; rfl) (by decide +kernel)
theorem okI_G_readSum : ∀ i e, cd_G_readSum i = some e → okI 243 i e = true := chk cd_G_readSum 61 (okI 243) (fun i h => by unfold cd_G_readSum; rw [h]; rfl) (by decide +kernel)
theorem okI_G_readTerm : ∀ i e, cd_G_readTerm i = some e → okI 244 i e = true := chk cd_G_readTerm 61 (okI 244) (fun i h => by unfold cd_G_readTerm; rw [h]; rfl) (by decide +kernel)
theorem okI_G_readAtom : ∀ i e, cd_G_readAtom i = some e → okI 245 i e = true := chk cd_G_readAtom 85 (okI 245) (fun i h => by unfold cd_G_readAtom; rw [h]; rfl) (by decide +kernel)
theorem okI_G_isLetter : ∀ i e, cd_G_isLetter i = some e → okI 246 i e = true := chk cd_G_isLetter 35 (okI 246) (fun i h => by unfold cd_G_isLetter; rw [h]; rfl) (by decide +kernel)
theorem okI_G_readComparison : ∀ i e, cd_G_readComparison i = some e → okI 247 i e = true := chk cd_G_readComparison 33 (okI 247) (fun i h => by unfold cd_G_readComparison; rw [h]; rfl) (by decide +kernel)
theorem okI_G_isComparison : ∀ i e, cd_G_isComparison i = some e → okI 248 i e = true := chk cd_G_isComparison 23 (okI 248) (fun i h => by unfold cd_G_isComparison; rw [h]; rfl) (by decide +kernel)
theorem okI_G_readUnitsOn : ∀ i e, cd_G_readUnitsOn i = some e → okI 249 i e = true := chk cd_G_readUnitsOn 36 (okI 249) (fun i h => by unfold cd_G_readUnitsOn; rw [h]; rfl) (by decide +kernel)
theorem okI_G_readTruthsOn : ∀ i e, cd_G_readTruthsOn i = some e → okI 250 i e = true := chk cd_G_readTruthsOn 42 (okI 250) (fun i h => by unfold cd_G_readTruthsOn; rw [h]; rfl) (by decide +kernel)
theorem okI_J_bitCount : ∀ i e, cd_J_bitCount i = some e → okI 251 i e = true := chk cd_J_bitCount 52 (okI 251) (fun i h => by unfold cd_J_bitCount; rw [h]; rfl) (by decide +kernel)
theorem okI_J_numberOfTrailingZeros : ∀ i e, cd_J_numberOfTrailingZeros i = some e → okI 252 i e = true := chk cd_J_numberOfTrailingZeros 79 (okI 252) (fun i h => by unfold cd_J_numberOfTrailingZeros; rw [h]; rfl) (by decide +kernel)
theorem okI_J_minI : ∀ i e, cd_J_minI i = some e → okI 253 i e = true := fun i e h => by cases h
theorem okI_J_maxI : ∀ i e, cd_J_maxI i = some e → okI 254 i e = true := fun i e h => by cases h
theorem okI_J_minL : ∀ i e, cd_J_minL i = some e → okI 255 i e = true := fun i e h => by cases h
theorem okI_J_maxL : ∀ i e, cd_J_maxL i = some e → okI 256 i e = true := fun i e h => by cases h
theorem okI_J_fill : ∀ i e, cd_J_fill i = some e → okI 257 i e = true := chk cd_J_fill 20 (okI 257) (fun i h => by unfold cd_J_fill; rw [h]; rfl) (by decide +kernel)
theorem okI_K_law_p0 : (List.range' 0 60).all (fun i => match cd_K_law i with | none => true | some e => okI 258 i e) = true := by decide +kernel
theorem okI_K_law_p60 : (List.range' 60 60).all (fun i => match cd_K_law i with | none => true | some e => okI 258 i e) = true := by decide +kernel
theorem okI_K_law_p120 : (List.range' 120 60).all (fun i => match cd_K_law i with | none => true | some e => okI 258 i e) = true := by decide +kernel
theorem okI_K_law_p180 : (List.range' 180 60).all (fun i => match cd_K_law i with | none => true | some e => okI 258 i e) = true := by decide +kernel
theorem okI_K_law_p240 : (List.range' 240 60).all (fun i => match cd_K_law i with | none => true | some e => okI 258 i e) = true := by decide +kernel
theorem okI_K_law_p300 : (List.range' 300 60).all (fun i => match cd_K_law i with | none => true | some e => okI 258 i e) = true := by decide +kernel
theorem okI_K_law_p360 : (List.range' 360 60).all (fun i => match cd_K_law i with | none => true | some e => okI 258 i e) = true := by decide +kernel
theorem okI_K_law_p420 : (List.range' 420 60).all (fun i => match cd_K_law i with | none => true | some e => okI 258 i e) = true := by decide +kernel
theorem okI_K_law_p480 : (List.range' 480 60).all (fun i => match cd_K_law i with | none => true | some e => okI 258 i e) = true := by decide +kernel
theorem okI_K_law_p540 : (List.range' 540 60).all (fun i => match cd_K_law i with | none => true | some e => okI 258 i e) = true := by decide +kernel
theorem okI_K_law_p600 : (List.range' 600 60).all (fun i => match cd_K_law i with | none => true | some e => okI 258 i e) = true := by decide +kernel
theorem okI_K_law_p660 : (List.range' 660 60).all (fun i => match cd_K_law i with | none => true | some e => okI 258 i e) = true := by decide +kernel
theorem okI_K_law_p720 : (List.range' 720 60).all (fun i => match cd_K_law i with | none => true | some e => okI 258 i e) = true := by decide +kernel
theorem okI_K_law_p780 : (List.range' 780 60).all (fun i => match cd_K_law i with | none => true | some e => okI 258 i e) = true := by decide +kernel
theorem okI_K_law_p840 : (List.range' 840 60).all (fun i => match cd_K_law i with | none => true | some e => okI 258 i e) = true := by decide +kernel
theorem okI_K_law_p900 : (List.range' 900 60).all (fun i => match cd_K_law i with | none => true | some e => okI 258 i e) = true := by decide +kernel
theorem okI_K_law_p960 : (List.range' 960 60).all (fun i => match cd_K_law i with | none => true | some e => okI 258 i e) = true := by decide +kernel
theorem okI_K_law_p1020 : (List.range' 1020 60).all (fun i => match cd_K_law i with | none => true | some e => okI 258 i e) = true := by decide +kernel
theorem okI_K_law_p1080 : (List.range' 1080 60).all (fun i => match cd_K_law i with | none => true | some e => okI 258 i e) = true := by decide +kernel
theorem okI_K_law_p1140 : (List.range' 1140 60).all (fun i => match cd_K_law i with | none => true | some e => okI 258 i e) = true := by decide +kernel
theorem okI_K_law_p1200 : (List.range' 1200 60).all (fun i => match cd_K_law i with | none => true | some e => okI 258 i e) = true := by decide +kernel
theorem okI_K_law : ∀ i e, cd_K_law i = some e → okI 258 i e = true := chkP cd_K_law 1254 (okI 258) (fun i h => by unfold cd_K_law; rw [h]; rfl) 21 (fun j hj => by
  match j, hj with
  | 0, _ => exact okI_K_law_p0
  | 1, _ => exact okI_K_law_p60
  | 2, _ => exact okI_K_law_p120
  | 3, _ => exact okI_K_law_p180
  | 4, _ => exact okI_K_law_p240
  | 5, _ => exact okI_K_law_p300
  | 6, _ => exact okI_K_law_p360
  | 7, _ => exact okI_K_law_p420
  | 8, _ => exact okI_K_law_p480
  | 9, _ => exact okI_K_law_p540
  | 10, _ => exact okI_K_law_p600
  | 11, _ => exact okI_K_law_p660
  | 12, _ => exact okI_K_law_p720
  | 13, _ => exact okI_K_law_p780
  | 14, _ => exact okI_K_law_p840
  | 15, _ => exact okI_K_law_p900
  | 16, _ => exact okI_K_law_p960
  | 17, _ => exact okI_K_law_p1020
  | 18, _ => exact okI_K_law_p1080
  | 19, _ => exact okI_K_law_p1140
  | 20, _ => exact okI_K_law_p1200
  | q + 21, hq => exact absurd hq (by omega))
