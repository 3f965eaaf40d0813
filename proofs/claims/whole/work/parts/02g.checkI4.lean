/-! CHECKS of the code: each table of instructions against the bytes (piece 4) -/
theorem okI_M_besideOf : ∀ i e, cd_M_besideOf i = some e → okI 201 i e = true := chk cd_M_besideOf 111 (okI 201) (fun i h => by unfold cd_M_besideOf; rw [h]; rfl) (by decide +kernel)
theorem okI_M_smell : ∀ i e, cd_M_smell i = some e → okI 202 i e = true := chk cd_M_smell 44 (okI 202) (fun i h => by unfold cd_M_smell; rw [h]; rfl) (by decide +kernel)
theorem okI_M_layNow : ∀ i e, cd_M_layNow i = some e → okI 203 i e = true := chk cd_M_layNow 16 (okI 203) (fun i h => by unfold cd_M_layNow; rw [h]; rfl) (by decide +kernel)
theorem okI_M_laySmells : ∀ i e, cd_M_laySmells i = some e → okI 204 i e = true := chk cd_M_laySmells 171 (okI 204) (fun i h => by unfold cd_M_laySmells; rw [h]; rfl) (by decide +kernel)
theorem okI_M_spreads : ∀ i e, cd_M_spreads i = some e → okI 205 i e = true := chk cd_M_spreads 115 (okI 205) (fun i h => by unfold cd_M_spreads; rw [h]; rfl) (by decide +kernel)
theorem okI_M_worthOf : ∀ i e, cd_M_worthOf i = some e → okI 206 i e = true := chk cd_M_worthOf 93 (okI 206) (fun i h => by unfold cd_M_worthOf; rw [h]; rfl) (by decide +kernel)
theorem okI_M_isSmelled : ∀ i e, cd_M_isSmelled i = some e → okI 207 i e = true := chk cd_M_isSmelled 37 (okI 207) (fun i h => by unfold cd_M_isSmelled; rw [h]; rfl) (by decide +kernel)
theorem okI_M_breath : ∀ i e, cd_M_breath i = some e → okI 208 i e = true := chk cd_M_breath 28 (okI 208) (fun i h => by unfold cd_M_breath; rw [h]; rfl) (by decide +kernel)
theorem okI_M_strongest : ∀ i e, cd_M_strongest i = some e → okI 209 i e = true := chk cd_M_strongest 82 (okI 209) (fun i h => by unfold cd_M_strongest; rw [h]; rfl) (by decide +kernel)
theorem okI_M_trail : ∀ i e, cd_M_trail i = some e → okI 210 i e = true := chk cd_M_trail 81 (okI 210) (fun i h => by unfold cd_M_trail; rw [h]; rfl) (by decide +kernel)
theorem okI_M_wipe : ∀ i e, cd_M_wipe i = some e → okI 211 i e = true := chk cd_M_wipe 27 (okI 211) (fun i h => by unfold cd_M_wipe; rw [h]; rfl) (by decide +kernel)
theorem okI_M_where : ∀ i e, cd_M_where i = some e → okI 212 i e = true := chk cd_M_where 39 (okI 212) (fun i h => by unfold cd_M_where; rw [h]; rfl) (by decide +kernel)
theorem okI_M_nowsOf : ∀ i e, cd_M_nowsOf i = some e → okI 213 i e = true := chk cd_M_nowsOf 64 (okI 213) (fun i h => by unfold cd_M_nowsOf; rw [h]; rfl) (by decide +kernel)
theorem okI_M_endOf : ∀ i e, cd_M_endOf i = some e → okI 214 i e = true := chk cd_M_endOf 48 (okI 214) (fun i h => by unfold cd_M_endOf; rw [h]; rfl) (by decide +kernel)
theorem okI_M_stays : ∀ i e, cd_M_stays i = some e → okI 215 i e = true := chk cd_M_stays 17 (okI 215) (fun i h => by unfold cd_M_stays; rw [h]; rfl) (by decide +kernel)
theorem okI_M_door : ∀ i e, cd_M_door i = some e → okI 216 i e = true := chk cd_M_door 159 (okI 216) (fun i h => by unfold cd_M_door; rw [h]; rfl) (by decide +kernel)
theorem okI_M_most : ∀ i e, cd_M_most i = some e → okI 217 i e = true := chk cd_M_most 113 (okI 217) (fun i h => by unfold cd_M_most; rw [h]; rfl) (by decide +kernel)
theorem okI_M_kindsNow : ∀ i e, cd_M_kindsNow i = some e → okI 218 i e = true := chk cd_M_kindsNow 42 (okI 218) (fun i h => by unfold cd_M_kindsNow; rw [h]; rfl) (by decide +kernel)
theorem okI_M_silent : ∀ i e, cd_M_silent i = some e → okI 219 i e = true := chk cd_M_silent 65 (okI 219) (fun i h => by unfold cd_M_silent; rw [h]; rfl) (by decide +kernel)
theorem okI_M_unlike : ∀ i e, cd_M_unlike i = some e → okI 220 i e = true := chk cd_M_unlike 68 (okI 220) (fun i h => by unfold cd_M_unlike; rw [h]; rfl) (by decide +kernel)
theorem okI_M_keepBreaths : ∀ i e, cd_M_keepBreaths i = some e → okI 221 i e = true := chk cd_M_keepBreaths 26 (okI 221) (fun i h => by unfold cd_M_keepBreaths; rw [h]; rfl) (by decide +kernel)
theorem okI_M_changedFromKept : ∀ i e, cd_M_changedFromKept i = some e → okI 222 i e = true := chk cd_M_changedFromKept 53 (okI 222) (fun i h => by unfold cd_M_changedFromKept; rw [h]; rfl) (by decide +kernel)
theorem okI_M_forged : ∀ i e, cd_M_forged i = some e → okI 223 i e = true := chk cd_M_forged 70 (okI 223) (fun i h => by unfold cd_M_forged; rw [h]; rfl) (by decide +kernel)
theorem okI_M_follow : ∀ i e, cd_M_follow i = some e → okI 224 i e = true := chk cd_M_follow 72 (okI 224) (fun i h => by unfold cd_M_follow; rw [h]; rfl) (by decide +kernel)
theorem okI_M_goFollow : ∀ i e, cd_M_goFollow i = some e → okI 225 i e = true := chk cd_M_goFollow 126 (okI 225) (fun i h => by unfold cd_M_goFollow; rw [h]; rfl) (by decide +kernel)
theorem okI_M_led : ∀ i e, cd_M_led i = some e → okI 226 i e = true := chk cd_M_led 151 (okI 226) (fun i h => by unfold cd_M_led; rw [h]; rfl) (by decide +kernel)
theorem okI_M_sure_p0 : (List.range' 0 60).all (fun i => match cd_M_sure i with | none => true | some e => okI 227 i e) = true := by decide +kernel
theorem okI_M_sure_p60 : (List.range' 60 60).all (fun i => match cd_M_sure i with | none => true | some e => okI 227 i e) = true := by decide +kernel
theorem okI_M_sure_p120 : (List.range' 120 60).all (fun i => match cd_M_sure i with | none => true | some e => okI 227 i e) = true := by decide +kernel
theorem okI_M_sure_p180 : (List.range' 180 60).all (fun i => match cd_M_sure i with | none => true | some e => okI 227 i e) = true := by decide +kernel
theorem okI_M_sure_p240 : (List.range' 240 60).all (fun i => match cd_M_sure i with | none => true | some e => okI 227 i e) = true := by decide +kernel
theorem okI_M_sure_p300 : (List.range' 300 60).all (fun i => match cd_M_sure i with | none => true | some e => okI 227 i e) = true := by decide +kernel
theorem okI_M_sure : ∀ i e, cd_M_sure i = some e → okI 227 i e = true := chkP cd_M_sure 319 (okI 227) (fun i h => by unfold cd_M_sure; rw [h]; rfl) 6 (fun j hj => by
  match j, hj with
  | 0, _ => exact okI_M_sure_p0
  | 1, _ => exact okI_M_sure_p60
  | 2, _ => exact okI_M_sure_p120
  | 3, _ => exact okI_M_sure_p180
  | 4, _ => exact okI_M_sure_p240
  | 5, _ => exact okI_M_sure_p300
  | q + 6, hq => exact absurd hq (by omega))
theorem okI_M_among : ∀ i e, cd_M_among i = some e → okI 228 i e = true := chk cd_M_among 38 (okI 228) (fun i h => by unfold cd_M_among; rw [h]; rfl) (by decide +kernel)
theorem okI_M_goesAll : ∀ i e, cd_M_goesAll i = some e → okI 229 i e = true := chk cd_M_goesAll 62 (okI 229) (fun i h => by unfold cd_M_goesAll; rw [h]; rfl) (by decide +kernel)
theorem okI_M_note : ∀ i e, cd_M_note i = some e → okI 230 i e = true := chk cd_M_note 109 (okI 230) (fun i h => by unfold cd_M_note; rw [h]; rfl) (by decide +kernel)
theorem okI_M_thief : ∀ i e, cd_M_thief i = some e → okI 231 i e = true := chk cd_M_thief 43 (okI 231) (fun i h => by unfold cd_M_thief; rw [h]; rfl) (by decide +kernel)
theorem okI_M_layThief : ∀ i e, cd_M_layThief i = some e → okI 232 i e = true := chk cd_M_layThief 93 (okI 232) (fun i h => by unfold cd_M_layThief; rw [h]; rfl) (by decide +kernel)
