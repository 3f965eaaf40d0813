/-! CHECKS of the code: each table of instructions against the bytes (piece 3) -/
theorem okI_M_isWhole : ∀ i e, cd_M_isWhole i = some e → okI 166 i e = true := chk cd_M_isWhole 123 (okI 166) (fun i h => by unfold cd_M_isWhole; rw [h]; rfl) (by decide +kernel)
theorem okI_M_goThrough : ∀ i e, cd_M_goThrough i = some e → okI 167 i e = true := chk cd_M_goThrough 87 (okI 167) (fun i h => by unfold cd_M_goThrough; rw [h]; rfl) (by decide +kernel)
theorem okI_M_clause : ∀ i e, cd_M_clause i = some e → okI 168 i e = true := chk cd_M_clause 172 (okI 168) (fun i h => by unfold cd_M_clause; rw [h]; rfl) (by decide +kernel)
theorem okI_M_isAmong : ∀ i e, cd_M_isAmong i = some e → okI 169 i e = true := fun i e h => by cases h
theorem okI_M_takes : ∀ i e, cd_M_takes i = some e → okI 170 i e = true := chk cd_M_takes 32 (okI 170) (fun i h => by unfold cd_M_takes; rw [h]; rfl) (by decide +kernel)
theorem okI_M_condition : ∀ i e, cd_M_condition i = some e → okI 171 i e = true := chk cd_M_condition 61 (okI 171) (fun i h => by unfold cd_M_condition; rw [h]; rfl) (by decide +kernel)
theorem okI_M_part : ∀ i e, cd_M_part i = some e → okI 172 i e = true := chk cd_M_part 70 (okI 172) (fun i h => by unfold cd_M_part; rw [h]; rfl) (by decide +kernel)
theorem okI_M_compares : ∀ i e, cd_M_compares i = some e → okI 173 i e = true := chk cd_M_compares 111 (okI 173) (fun i h => by unfold cd_M_compares; rw [h]; rfl) (by decide +kernel)
theorem okI_M_sum : ∀ i e, cd_M_sum i = some e → okI 174 i e = true := chk cd_M_sum 85 (okI 174) (fun i h => by unfold cd_M_sum; rw [h]; rfl) (by decide +kernel)
theorem okI_M_term : ∀ i e, cd_M_term i = some e → okI 175 i e = true := chk cd_M_term 95 (okI 175) (fun i h => by unfold cd_M_term; rw [h]; rfl) (by decide +kernel)
theorem okI_M_atom : ∀ i e, cd_M_atom i = some e → okI 176 i e = true := chk cd_M_atom 157 (okI 176) (fun i h => by unfold cd_M_atom; rw [h]; rfl) (by decide +kernel)
theorem okI_M_goesIn : ∀ i e, cd_M_goesIn i = some e → okI 177 i e = true := chk cd_M_goesIn 35 (okI 177) (fun i h => by unfold cd_M_goesIn; rw [h]; rfl) (by decide +kernel)
theorem okI_M_within : ∀ i e, cd_M_within i = some e → okI 178 i e = true := chk cd_M_within 14 (okI 178) (fun i h => by unfold cd_M_within; rw [h]; rfl) (by decide +kernel)
theorem okI_M_isSign : ∀ i e, cd_M_isSign i = some e → okI 179 i e = true := chk cd_M_isSign 23 (okI 179) (fun i h => by unfold cd_M_isSign; rw [h]; rfl) (by decide +kernel)
theorem okI_M_unit : ∀ i e, cd_M_unit i = some e → okI 180 i e = true := chk cd_M_unit 96 (okI 180) (fun i h => by unfold cd_M_unit; rw [h]; rfl) (by decide +kernel)
theorem okI_M_text_p0 : (List.range' 0 60).all (fun i => match cd_M_text i with | none => true | some e => okI 181 i e) = true := by decide +kernel
theorem okI_M_text_p60 : (List.range' 60 60).all (fun i => match cd_M_text i with | none => true | some e => okI 181 i e) = true := by decide +kernel
theorem okI_M_text_p120 : (List.range' 120 60).all (fun i => match cd_M_text i with | none => true | some e => okI 181 i e) = true := by decide +kernel
theorem okI_M_text_p180 : (List.range' 180 60).all (fun i => match cd_M_text i with | none => true | some e => okI 181 i e) = true := by decide +kernel
theorem okI_M_text_p240 : (List.range' 240 60).all (fun i => match cd_M_text i with | none => true | some e => okI 181 i e) = true := by decide +kernel
theorem okI_M_text_p300 : (List.range' 300 60).all (fun i => match cd_M_text i with | none => true | some e => okI 181 i e) = true := by decide +kernel
theorem okI_M_text : ∀ i e, cd_M_text i = some e → okI 181 i e = true := chkP cd_M_text 323 (okI 181) (fun i h => by unfold cd_M_text; rw [h]; rfl) 6 (fun j hj => by
  match j, hj with
  | 0, _ => exact okI_M_text_p0
  | 1, _ => exact okI_M_text_p60
  | 2, _ => exact okI_M_text_p120
  | 3, _ => exact okI_M_text_p180
  | 4, _ => exact okI_M_text_p240
  | 5, _ => exact okI_M_text_p300
  | q + 6, hq => exact absurd hq (by omega))
theorem okI_M_streetMany : ∀ i e, cd_M_streetMany i = some e → okI 182 i e = true := chk cd_M_streetMany 36 (okI 182) (fun i h => by unfold cd_M_streetMany; rw [h]; rfl) (by decide +kernel)
theorem okI_M_cells : ∀ i e, cd_M_cells i = some e → okI 183 i e = true := chk cd_M_cells 9 (okI 183) (fun i h => by unfold cd_M_cells; rw [h]; rfl) (by decide +kernel)
theorem okI_M_source : ∀ i e, cd_M_source i = some e → okI 184 i e = true := chk cd_M_source 142 (okI 184) (fun i h => by unfold cd_M_source; rw [h]; rfl) (by decide +kernel)
theorem okI_M_isSource : ∀ i e, cd_M_isSource i = some e → okI 185 i e = true := chk cd_M_isSource 17 (okI 185) (fun i h => by unfold cd_M_isSource; rw [h]; rfl) (by decide +kernel)
theorem okI_M_placeOfSource : ∀ i e, cd_M_placeOfSource i = some e → okI 186 i e = true := chk cd_M_placeOfSource 28 (okI 186) (fun i h => by unfold cd_M_placeOfSource; rw [h]; rfl) (by decide +kernel)
theorem okI_M_cellOf : ∀ i e, cd_M_cellOf i = some e → okI 187 i e = true := chk cd_M_cellOf 16 (okI 187) (fun i h => by unfold cd_M_cellOf; rw [h]; rfl) (by decide +kernel)
theorem okI_M_smells : ∀ i e, cd_M_smells i = some e → okI 188 i e = true := chk cd_M_smells 26 (okI 188) (fun i h => by unfold cd_M_smells; rw [h]; rfl) (by decide +kernel)
theorem okI_M_isHour : ∀ i e, cd_M_isHour i = some e → okI 189 i e = true := chk cd_M_isHour 77 (okI 189) (fun i h => by unfold cd_M_isHour; rw [h]; rfl) (by decide +kernel)
theorem okI_M_street : ∀ i e, cd_M_street i = some e → okI 190 i e = true := chk cd_M_street 34 (okI 190) (fun i h => by unfold cd_M_street; rw [h]; rfl) (by decide +kernel)
theorem okI_M_placeAt : ∀ i e, cd_M_placeAt i = some e → okI 191 i e = true := chk cd_M_placeAt 44 (okI 191) (fun i h => by unfold cd_M_placeAt; rw [h]; rfl) (by decide +kernel)
theorem okI_M_law : ∀ i e, cd_M_law i = some e → okI 192 i e = true := chk cd_M_law 41 (okI 192) (fun i h => by unfold cd_M_law; rw [h]; rfl) (by decide +kernel)
theorem okI_M_set : ∀ i e, cd_M_set i = some e → okI 193 i e = true := chk cd_M_set 90 (okI 193) (fun i h => by unfold cd_M_set; rw [h]; rfl) (by decide +kernel)
theorem okI_M_remember : ∀ i e, cd_M_remember i = some e → okI 194 i e = true := chk cd_M_remember 90 (okI 194) (fun i h => by unfold cd_M_remember; rw [h]; rfl) (by decide +kernel)
theorem okI_M_open : ∀ i e, cd_M_open i = some e → okI 195 i e = true := chk cd_M_open 46 (okI 195) (fun i h => by unfold cd_M_open; rw [h]; rfl) (by decide +kernel)
theorem okI_M_hours : ∀ i e, cd_M_hours i = some e → okI 196 i e = true := chk cd_M_hours 143 (okI 196) (fun i h => by unfold cd_M_hours; rw [h]; rfl) (by decide +kernel)
theorem okI_M_undo : ∀ i e, cd_M_undo i = some e → okI 197 i e = true := chk cd_M_undo 60 (okI 197) (fun i h => by unfold cd_M_undo; rw [h]; rfl) (by decide +kernel)
theorem okI_M_far : ∀ i e, cd_M_far i = some e → okI 198 i e = true := chk cd_M_far 66 (okI 198) (fun i h => by unfold cd_M_far; rw [h]; rfl) (by decide +kernel)
theorem okI_M_streetAt : ∀ i e, cd_M_streetAt i = some e → okI 199 i e = true := chk cd_M_streetAt 25 (okI 199) (fun i h => by unfold cd_M_streetAt; rw [h]; rfl) (by decide +kernel)
theorem okI_M_layFar : ∀ i e, cd_M_layFar i = some e → okI 200 i e = true := chk cd_M_layFar 174 (okI 200) (fun i h => by unfold cd_M_layFar; rw [h]; rfl) (by decide +kernel)
